/-! OF STATES ALONE (rows of claims/whole/work/parts 25 to 30) -/
section PU
def fx (p : Nat → Bool) (n k : Nat) : Int := ff (fun i => decide (k ≤ i) && p i) n
theorem fx_n (p : Nat → Bool) (n : Nat) : fx p n n = -1 := ff_none (fun j hj h => by
  rw [Bool.and_eq_true, decide_eq_true_eq] at h
  omega)
theorem fx_0 (p : Nat → Bool) (n : Nat) : fx p n 0 = ff p n := ff_cong (fun k hk => by simp)
theorem fx_s {p : Nat → Bool} {n k : Nat} (h : k < n) : fx p n k = if p k = true then (k : Int) else fx p n (k + 1) := by
  by_cases q : p k = true
  · rw [if_pos q]
    refine ff_some (by rw [Bool.and_eq_true, decide_eq_true_eq]; exact ⟨Nat.le_refl k, q⟩) (fun j hj hh => ?_) h
    rw [Bool.and_eq_true, decide_eq_true_eq] at hh
    omega
  · rw [if_neg q]
    refine ff_cong (fun i hi => ?_)
    by_cases z : i = k
    · subst z
      simp [q]
    · congr 1
      simp only [decide_eq_decide]
      omega
theorem fx_rng (p : Nat → Bool) (n k : Nat) : -1 ≤ fx p n k ∧ fx p n k < n := ff_rng _ n
theorem lp_dn {P : Nat → Prop} (n : Nat) (h0 : P 0) (hs : ∀ k, k < n → P k → P (k + 1)) : P n := by
  have h : ∀ k, k ≤ n → P k := by
    intro k
    induction k with
    | zero => intro _; exact h0
    | succ k ih => intro hk; exact hs k (by omega) (ih (by omega))
  exact h n (Nat.le_refl n)
theorem lsf_nff (σ : SG) : lsf σ = -1 ↔ nff σ = 0 := by
  have e0 : nff σ = 0 ↔ ∀ f : Nat, f < 32 → ¬ uses (s_fr σ) f = 0 := by
    unfold nff
    rw [ct_zero]
    constructor
    · intro h f hf q; exact h f hf (decide_eq_true q)
    · intro h f hf q; exact h f hf (of_decide_eq_true q)
  rw [e0]
  unfold lsf lsf1 lsf0
  rcases ff_cases (fun f => decide (uses (s_fr σ) f = 0)) 32 with ⟨h1, h2⟩ | ⟨k, h1, h2, h3, h4⟩
  · have h5 : ff (fun f => decide (uses (s_fr σ) f = 0) && !(rf σ ((f : Int).tdiv 4))) 32 = -1 := ff_none (fun j hj q => by
      rw [Bool.and_eq_true] at q
      exact h2 j hj q.1)
    rw [h5, if_pos rfl, h1]
    exact ⟨fun _ f hf q => h2 f hf (decide_eq_true q), fun _ => rfl⟩
  · constructor
    · intro h
      exfalso
      rw [h1] at h
      by_cases q : ff (fun f => decide (uses (s_fr σ) f = 0) && !(rf σ ((f : Int).tdiv 4))) 32 = -1
      · rw [if_pos q] at h
        omega
      · rw [if_neg q] at h
        exact q h
    · intro h
      exact absurd (of_decide_eq_true h3) (h k h2)
theorem lfr_nff {σ : SG} (h : lfr σ ≠ -1) : nff σ ≠ 0 := by
  rcases ff_cases (fun r => rf σ r) 8 with ⟨h1, -⟩ | ⟨k, h1, h2, h3, -⟩
  · exact absurd h1 h
  · intro q
    have q2 := ct_zero.mp q (4 * k) (by omega)
    have h4 := of_decide_eq_true h3
    have h5 := ct_zero.mp h4 0 (by decide)
    have h6 := uses_rng (s_fr σ) (4 * (k : Int) + (0 : Nat))
    simp only [decide_eq_true_eq] at q2 h5
    apply q2
    have e : ((4 * k : Nat) : Int) = 4 * (k : Int) + (0 : Nat) := by omega
    rw [e]
    omega
theorem nex_p {σ : SG} {p : Int} (h : hasP σ p = true) : 1 ≤ nex σ := by
  have h1 := ex_of h
  have h2 := nex_rng σ
  rcases (by omega : nex σ = 0 ∨ 1 ≤ nex σ) with q | q
  · exact absurd (decide_eq_true h1.2.2) (ct_zero.mp q p.toNat (by omega))
  · exact q
theorem va_rng {σ : SG} (hi : Inv σ) (f : Int) : 0 ≤ s_va σ f.toNat ∧ s_va σ f.toNat < 100 := hi.2.2.2.2.1 _
theorem b2_dec {p : Prop} [Decidable p] : b2 (decide p) = 1 ↔ p := by rw [b2_1, decide_eq_true_eq]
def emp (σ : SG) (f : Int) : Bool := decide (f ≠ -1 ∧ uses (s_fr σ) f = 1 ∧ s_va σ f.toNat = 0)
theorem xc_fk_rng (σ : SG) (p : Int) : 0 ≤ xc_fk σ p ∧ xc_fk σ p ≤ 2 := by unfold xc_fk; (repeat' split) <;> omega
theorem xc_ex_rng (σ : SG) (p : Int) : 0 ≤ xc_ex σ p ∧ xc_ex σ p ≤ 2 := by unfold xc_ex; (repeat' split) <;> omega
theorem addco_0 (σ : SG) : s_addco σ 0 = σ := by unfold s_addco; rw [Int.add_zero]
theorem addfa_0 (σ : SG) : s_addfa σ 0 = σ := by unfold s_addfa; rw [Int.add_zero]
theorem oc_0 {σ : SG} {p v : Int} (h : oc σ p v = 0) : fo σ p v ≠ -1 := by
  intro q
  unfold oc at h
  rw [if_neg (show ¬ (fo σ p v ≠ -1 ∧ ¬ sh σ (fo σ p v) = true) from fun z => z.1 q)] at h
  (repeat' split at h) <;> first | omega | contradiction
theorem oc_n {σ : SG} {p v : Int} (h : oc σ p v ≠ -1) (h0 : oc σ p v ≠ 0) : lsf σ ≠ -1 := by
  intro q
  have k := (lsf_nff σ).mp q
  unfold oc at h h0
  by_cases hp : hasPg σ p v = true
  · rw [if_pos hp] at h h0
    by_cases h1 : fo σ p v ≠ -1 ∧ ¬ sh σ (fo σ p v) = true
    · rw [if_pos h1] at h0
      exact h0 rfl
    · rw [if_neg h1, if_pos k] at h
      exact h rfl
  · rw [if_neg hp] at h
    exact h rfl
theorem oc_b {σ : SG} {p v : Int} (h2 : 2 ≤ oc σ p v) : (oc σ p v = 3 ↔ big σ p (v.tdiv 4) = true) := by
  unfold oc at h2 ⊢
  split at h2
  · rename_i hp
    rw [if_pos hp]
    split at h2
    · omega
    · rename_i h1
      rw [if_neg h1]
      split at h2
      · omega
      · rename_i h3
        rw [if_neg h3]
        split at h2
        · omega
        · rename_i h4
          rw [if_neg h4]
          by_cases b : big σ p (v.tdiv 4) = true
          · rw [if_pos b]; exact ⟨fun _ => b, fun _ => rfl⟩
          · rw [if_neg b]; exact ⟨fun z => by omega, fun z => absurd z b⟩
  · omega
theorem wh_in (σ : SG) {p g : Int} (r : Int) (hp : 0 ≤ p ∧ p < 4) (hg : 0 ≤ g ∧ g < 4) : ∀ {j i : Nat}, j ≤ 4 → i < j → s_fr (s_wh σ p g r j) (16 * p + (4 * g + i)).toNat = 4 * r + i
  | 0, i, _, h => absurd h (Nat.not_lt_zero i)
  | j + 1, i, h4, h => by
    show va_up (s_fr (s_wh σ p g r j)) (16 * p + (4 * g + j)).toNat (4 * r + j) _ = _
    by_cases q : i = j
    · subst q
      exact up_s _ _ _
    · rw [up_n (by omega)]
      exact wh_in σ r hp hg (by omega) (by omega)
theorem fo_setfr {σ : SG} {p v x : Int} (hp : 0 ≤ p ∧ p < 4) (hv : 0 ≤ v ∧ v < 16) : fo (s_setfr σ (16 * p + v).toNat x) p v = x := by
  rw [fo_in hp hv]
  exact up_s _ _ _
theorem emp_uv {σ : SG} {k : Nat} (hk : k < 64) : emp σ (s_fr σ k) = (decide (uo σ ((k / 16 : Nat) : Int) ((k % 16 : Nat) : Int) = 1) && decide (vo σ ((k / 16 : Nat) : Int) ((k % 16 : Nat) : Int) = 0)) := by
  have e : fo σ ((k / 16 : Nat) : Int) ((k % 16 : Nat) : Int) = s_fr σ k := by
    rw [fo_in (by omega) (by omega), show (16 * ((k / 16 : Nat) : Int) + ((k % 16 : Nat) : Int)).toNat = k by omega]
  unfold emp uo vo
  rw [e]
  by_cases q : s_fr σ k = -1
  · rw [if_pos q, if_pos q]
    simp [q]
  · rw [if_neg q, if_neg q]
    simp [q]
theorem emp_pz {σ : SG} (hi : Inv σ) {k : Nat} (hk : k < 16) (h : ps σ ((k / 4 : Nat) : Int) ((k % 4 : Nat) : Int) = 0) : ct (fun i => emp σ (s_fr σ (4 * k + i))) 4 = pz σ ((k / 4 : Nat) : Int) ((k % 4 : Nat) : Int) := by
  refine ct_cong (fun i hi4 => ?_)
  have e : fo σ ((k / 4 : Nat) : Int) (4 * ((k % 4 : Nat) : Int) + i) = s_fr σ (4 * k + i) := by
    rw [fo_in (by omega) (by omega), show (16 * ((k / 4 : Nat) : Int) + (4 * ((k % 4 : Nat) : Int) + i)).toNat = 4 * k + i by omega]
  have hs := ct_zero.mp h i hi4
  rw [e] at hs
  unfold emp vo
  rw [e]
  have hu := uses_pos (fr := s_fr σ) (k := 4 * k + i) (g := s_fr σ (4 * k + i)) (by omega) rfl
  by_cases q : s_fr σ (4 * k + i) = -1
  · rw [if_pos q]
    simp [q]
  · rw [if_neg q]
    have h1 : uses (s_fr σ) (s_fr σ (4 * k + i)) = 1 := by
      unfold sh at hs
      rw [decide_eq_true_eq] at hs
      omega
    rw [h1]
    simp [q]
def mus (σ : SG) : Int := ct (fun k => decide (s_fr σ k ≠ -1)) 64 + nbg σ
theorem mus_rng (σ : SG) : 0 ≤ mus σ ∧ mus σ ≤ 80 := by
  have h1 := ct_rng (fun k => decide (s_fr σ k ≠ -1)) 64
  have h2 := nbg_rng σ
  unfold mus
  omega
theorem mus_los {σ : SG} (h : li σ ≠ -1) : mus (s_los σ) = mus σ - 1 := by
  rcases ff_cases (fun k => !(big σ ((k / 16 : Nat) : Int) ((k % 16 / 4 : Nat) : Int)) && decide (uo σ ((k / 16 : Nat) : Int) ((k % 16 : Nat) : Int) = 1) && decide (vo σ ((k / 16 : Nat) : Int) ((k % 16 : Nat) : Int) = 0)) 64 with ⟨h1, -⟩ | ⟨k, h1, h2, h3, -⟩
  · exact absurd h1 h
  · have h4 : li σ = k := h1
    rw [Bool.and_assoc, ← emp_uv h2, Bool.and_eq_true] at h3
    have h5 := (of_decide_eq_true h3.2).1
    have h6 := ct_upd (p := fun j => decide (s_fr σ j ≠ -1)) (q := fun j => decide (va_up (s_fr σ) k (-1) j ≠ -1)) (i := k) (n := 64) h2 (fun j hj => by simp only [up_n hj])
    simp only [up_s, decide_eq_true_eq] at h6
    rw [if_pos h5, if_neg (by simp)] at h6
    show ct (fun j => decide (va_up (s_fr σ) (li σ).toNat (-1) j ≠ -1)) 64 + nbg σ = mus σ - 1
    rw [h4, Int.toNat_natCast]
    unfold mus
    omega
theorem tb_big (σ : SG) : ∀ k : Nat, (tb σ k).1 ≠ -1 → big σ ((tb σ k).1 / 4) ((tb σ k).1 % 4) = true
  | 0, h => absurd rfl h
  | k + 1, h => by
    rw [tb] at h ⊢
    split
    · rename_i q
      exact q.1
    · rename_i q
      rw [if_neg q] at h
      exact tb_big σ k h
theorem mus_ter {σ : SG} (h : (tb σ 16).1 ≠ -1) : mus (s_ter σ) = mus σ - 1 := by
  have h1 := tb_rng σ 16
  have h3 := (of_decide_eq_true (tb_big σ 16 h)).2.2.2.2
  have e : (4 * ((tb σ 16).1 / 4) + (tb σ 16).1 % 4).toNat = (tb σ 16).1.toNat := by omega
  rw [e] at h3
  have h6 := ct_upd (p := fun j => decide (s_bg σ j = 1)) (q := fun j => decide (va_up (s_bg σ) (tb σ 16).1.toNat 0 j = 1)) (i := (tb σ 16).1.toNat) (n := 16) (by omega) (fun j hj => by simp only [up_n hj])
  simp only [up_s, decide_eq_true_eq] at h6
  rw [if_pos h3, if_neg (by decide)] at h6
  show ct (fun k => decide (s_fr σ k ≠ -1)) 64 + ct (fun j => decide (va_up (s_bg σ) (4 * ((tb σ 16).1 / 4) + (tb σ 16).1 % 4).toNat 0 j = 1)) 16 = mus σ - 1
  rw [e]
  unfold mus nbg
  omega
theorem s_ext_end (σ : SG) (p : Int) : nff (s_end σ p) = nff (s_le σ p 16) := by
  have e : ∀ j, s_fr (s_ls (s_le σ p 16) p j) = s_fr (s_le σ p 16) := fun j => ls_fr _ p j
  show nff (s_setex (s_ls (s_le σ p 16) p 4) p.toNat 0) = _
  unfold nff
  show ct (fun f => decide (uses (s_fr (s_ls (s_le σ p 16) p 4)) f = 0)) 32 = _
  rw [e 4]
theorem oc_no {σ : SG} {p v : Int} (h : ¬ hasPg σ p v = true) : oc σ p v = -1 := by unfold oc; rw [if_neg h]
theorem nff_le {σ : SG} (hi : Inv σ) {p : Int} (hp : 0 ≤ p ∧ p < 4) : ∀ j : Nat, j ≤ 16 → nff σ ≤ nff (s_le σ p j)
  | 0, _ => Int.le_refl _
  | j + 1, h => by
    have h1 := nff_le hi hp j (by omega)
    have h2 := nff_let (σ := s_le σ p j) (p := p) (v := (j : Int)) (inv_le hi hp j (by omega)) hp (by omega)
    have h3 : nff (s_le σ p (j + 1)) = nff (s_setfr (s_le σ p j) (16 * p + (j : Int)).toNat (-1)) := rfl
    have h4 : 0 ≤ lg (s_le σ p j) p j := by unfold lg; (repeat' split) <;> omega
    omega
theorem canE_p {σ : SG} {p : Int} (h : canE σ p = true) : 0 ≤ p ∧ p < 4 := by
  rw [canE, Bool.and_eq_true] at h
  have := ex_of h.1
  omega
theorem dev_ok {σ : SG} (hi : Inv σ) {p : Int} : dev σ p ≠ -1 ↔ canE σ p = true := by
  unfold dev
  by_cases h : canE σ p = true
  · rw [if_pos h]
    have := nff_le hi (canE_p h) 16 (by omega)
    exact ⟨fun _ => h, fun _ => by omega⟩
  · rw [if_neg h]
    exact ⟨fun z => absurd rfl z, fun z => absurd z h⟩
theorem dfv_ok {σ : SG} {p : Int} : dfv σ p ≠ -1 ↔ canF σ p = true := by
  unfold dfv
  by_cases h : canF σ p = true
  · rw [if_pos h]
    rw [canF, Bool.and_eq_true, decide_eq_true_eq] at h
    exact ⟨fun _ => by rw [canF, Bool.and_eq_true, decide_eq_true_eq]; exact h, fun _ => h.2⟩
  · rw [if_neg h]
    exact ⟨fun z => absurd rfl z, fun z => absurd z h⟩
theorem xc_fk0 {σ : SG} {p : Int} : xc_fk σ p = 0 ↔ canF σ p = true := by
  unfold xc_fk
  rw [canF, Bool.and_eq_true, decide_eq_true_eq]
  (repeat' split) <;> simp_all
theorem xc_ex0 {σ : SG} {p : Int} : xc_ex σ p = 0 ↔ canE σ p = true := by
  unfold xc_ex
  by_cases h : hasP σ p = true
  · rw [if_pos h]
    by_cases q : canE σ p = true
    · rw [if_pos q]; exact ⟨fun _ => q, fun _ => rfl⟩
    · rw [if_neg q]; exact ⟨fun z => by omega, fun z => absurd z q⟩
  · rw [if_neg h]
    refine ⟨fun z => by omega, fun z => ?_⟩
    rw [canE, Bool.and_eq_true] at z
    exact absurd z.1 h
theorem big_gr {σ : SG} (hi : Inv σ) {p g : Int} (h : big σ p g = true) : hasGr σ p g = true := by
  obtain ⟨h1, h2, h3, h4, h5⟩ := of_decide_eq_true h
  unfold hasGr hasP
  rw [Bool.and_eq_true, decide_eq_true_eq, decide_eq_true_eq]
  refine ⟨⟨h1, h2, ?_⟩, h3, h4⟩
  rcases hi.2.2.2.2.2.2.1 p.toNat with q | q
  · exfalso
    have := hi.2.2.2.2.2.2.2.2.2.2 p.toNat g.toNat (by omega) (by omega) q
    rw [show 4 * p.toNat + g.toNat = (4 * p + g).toNat by omega] at this
    omega
  · exact q
theorem ct_lt {p : Nat → Bool} {j : Nat} : ∀ {k : Nat}, j < k → p j = true → ct p j < ct p k
  | 0, h, _ => absurd h (Nat.not_lt_zero j)
  | k + 1, h, hp => by
    rcases Nat.lt_or_ge j k with q | q
    · have h1 := ct_lt q hp
      rw [ct]
      split <;> omega
    · rw [show j = k by omega] at hp ⊢
      rw [ct_yes hp]
      omega
theorem mi1_rng (σ : SG) : -1 ≤ mi1 σ ∧ mi1 σ < 16 := ff_rng _ 16
theorem mi0_rng (σ : SG) : -1 ≤ mi0 σ ∧ mi0 σ < 16 := ff_rng _ 16
theorem mv_bg (σ : SG) (p g r : Int) : ∀ j, s_bg (s_mv σ p g r j) = s_bg σ
  | 0 => rfl
  | j + 1 => mv_bg σ p g r j
theorem mar_bg (σ : SG) (p g : Int) : s_bg (s_mar σ p g) = va_up (s_bg σ) (4 * p + g).toNat 1 := by
  unfold s_mar
  split
  · rfl
  · show va_up (s_bg (s_mv σ p g (lfr σ) 4)) _ 1 = _
    rw [mv_bg]
theorem nbg_mar {σ : SG} (h : nxt σ ≠ -1) : nbg (s_mar σ (nxt σ / 4) (nxt σ % 4)) = nbg σ + 1 := by
  obtain ⟨h1, h2, h3⟩ := nxt_ok h
  have h4 := (wn_0 h3).1
  have h5 := nxt_rng σ
  have e : (4 * (nxt σ / 4) + nxt σ % 4).toNat = (nxt σ).toNat := by omega
  have h6 : ¬ s_bg σ (nxt σ).toNat = 1 := fun q => h4 (decide_eq_true ⟨h1.1, h1.2.1, h2.1, h2.2, by rw [e]; exact q⟩)
  have h7 := ct_upd (p := fun j => decide (s_bg σ j = 1)) (q := fun j => decide (va_up (s_bg σ) (nxt σ).toNat 1 j = 1)) (i := (nxt σ).toNat) (n := 16) (by omega) (fun j hj => by simp only [up_n hj])
  simp only [up_s, decide_eq_true_eq] at h7
  rw [if_neg h6, if_pos trivial] at h7
  unfold nbg
  rw [mar_bg, e]
  omega
theorem nbg_itm {σ : SG} : ∀ k : Nat, (∀ j : Nat, j < k → nxt (itm σ j) ≠ -1) → nbg (itm σ k) = nbg σ + k
  | 0, _ => (Int.add_zero _).symm
  | k + 1, h => by
    have h1 := nbg_itm k (fun j hj => h j (by omega))
    have h2 := h k (by omega)
    show nbg (dn (itm σ k)) = _
    unfold dn
    rw [if_pos h2, nbg_mar h2, h1]
    omega
theorem cmv_at {σ : SG} {k : Nat} (hk : k ≤ 16) (h : nxt (itm σ k) = -1) (hH : ∀ j : Nat, j < k → nxt (itm σ j) ≠ -1) : cmv σ = k := by
  unfold cmv
  rcases Nat.lt_or_ge k 16 with q | q
  · rw [ff_some (p := fun k => decide (nxt (itm σ k) = -1)) (k := k) (decide_eq_true h) (fun j hj z => hH j hj (of_decide_eq_true z)) q, if_neg (by omega)]
  · rw [ff_none (p := fun k => decide (nxt (itm σ k) = -1)) (fun j hj z => hH j (by omega) (of_decide_eq_true z)), if_pos rfl]
    omega
set_option maxRecDepth 20000 in
theorem wri_ex (σ : SG) (p v x : Int) : s_ex (s_wri σ p v x) = s_ex σ := by
  have h1 : s_ex (s_wri1 σ p v) = s_ex σ := by
    unfold s_wri1
    split
    · unfold s_bri
      show s_ex (if s_ea σ = 1 ∧ lfr σ ≠ -1 ∧ pf σ p (v.tdiv 4) = 0 then s_who σ p (v.tdiv 4) (lfr σ) else s_tsf σ p v) = _
      split
      · exact wh_ex σ p (v.tdiv 4) (lfr σ) 4
      · exact tsf_ex σ p v
    · split
      · rfl
      · unfold s_cop
        show s_ex (s_tsf (if big σ p (v.tdiv 4) = true then s_torn σ p (v.tdiv 4) else σ) p v) = _
        rw [tsf_ex]
        split <;> rfl
  unfold s_wri
  split
  · exact h1
  · exact h1
theorem itw_ex (σ : SG) (p : Int) : ∀ k, s_ex (itw σ p k) = s_ex σ
  | 0 => rfl
  | k + 1 => by
    show s_ex (dw (itw σ p k) p k 1) = _
    unfold dw
    split
    · exact itw_ex σ p k
    · rw [wri_ex, itw_ex σ p k]
theorem itw_pg {σ : SG} {p : Int} (h : hasP σ p = true) {k : Nat} (hk : k < 16) : hasPg (itw σ p k) p k = true := by
  unfold hasPg hasP at *
  rw [itw_ex, h, Bool.true_and, decide_eq_true_eq]
  omega
theorem dwv1 {σ : SG} {p v : Int} : dwv σ p v 1 = oc σ p v := by
  unfold dwv
  split
  · omega
  · rfl
theorem dw1 {σ : SG} {p v : Int} (h : oc σ p v ≠ -1) : dw σ p v 1 = s_wri σ p v 1 := by
  unfold dw
  rw [if_neg (by omega)]
theorem cwv_at {σ : SG} {p : Int} {k : Nat} (hk : k < 16) (h : oc (itw σ p k) p k = -1) (hH : ∀ j : Nat, j < k → oc (itw σ p j) p j ≠ -1) : cwv σ p = k := by
  unfold cwv
  rw [ff_some (p := fun k => decide (dwv (itw σ p k) p k 1 = -1)) (k := k) (decide_eq_true (by rw [dwv1]; exact h)) (fun j hj z => hH j hj (by rw [← dwv1 (σ := itw σ p j)]; exact of_decide_eq_true z)) hk, if_neg (by omega)]
theorem cwv_16 {σ : SG} {p : Int} (hH : ∀ j : Nat, j < 16 → oc (itw σ p j) p j ≠ -1) : cwv σ p = 16 := by
  unfold cwv
  rw [ff_none (p := fun k => decide (dwv (itw σ p k) p k 1 = -1)) (fun j hj z => hH j hj (by rw [← dwv1 (σ := itw σ p j)]; exact of_decide_eq_true z)), if_pos rfl]
end PU
