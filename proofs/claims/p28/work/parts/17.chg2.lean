/-! more of what changes: processes, marriages, tears, pressure -/
section CK
def lup (σ : SG) : Int := ff (fun p => !(hasP σ p)) 4
theorem lup_rng (σ : SG) : -1 ≤ lup σ ∧ lup σ < 4 := ff_rng _ 4
def canF (σ : SG) (p : Int) : Bool := hasP σ p && decide (lup σ ≠ -1)
def nex (σ : SG) : Int := ct (fun k => decide (s_ex σ k = 1)) 4
theorem nex_rng (σ : SG) : 0 ≤ nex σ ∧ nex σ ≤ 4 := ct_rng _ 4
def canE (σ : SG) (p : Int) : Bool := hasP σ p && decide (1 < nex σ)
theorem lup_ex {σ : SG} (hi : Inv σ) (h : lup σ ≠ -1) : s_ex σ (lup σ).toNat = 0 := by
  rcases ff_cases (fun p => !(hasP σ p)) 4 with ⟨h1, -⟩ | ⟨k, h1, h2, h3, -⟩
  · exact absurd h1 h
  · have h4 : lup σ = k := h1
    rw [h4, Int.toNat_natCast]
    rw [Bool.not_eq_true', Bool.eq_false_iff] at h3
    rcases hi.2.2.2.2.2.2.1 k with q | q
    · exact q
    · exact absurd (decide_eq_true ⟨by omega, by omega, by rw [Int.toNat_natCast]; exact q⟩) h3
def s_fk (σ : SG) (p c : Int) : Nat → SG
  | 0 => σ
  | j + 1 => s_setfr (s_fk σ p c j) (16 * c + j).toNat (fo (s_fk σ p c j) p j)
def s_fb (σ : SG) (p c : Int) : Nat → SG
  | 0 => σ
  | j + 1 => s_setbg (s_fb σ p c j) (4 * c + j).toNat (b2 (big (s_fb σ p c j) p j))
def s_for (σ : SG) (p : Int) : SG := s_fb (s_fk (s_setex σ (lup σ).toNat 1) p (lup σ) 16) p (lup σ) 4
theorem fk_ex (σ : SG) (p c : Int) : ∀ j, s_ex (s_fk σ p c j) = s_ex σ
  | 0 => rfl
  | j + 1 => fk_ex σ p c j
theorem fk_bg (σ : SG) (p c : Int) : ∀ j, s_bg (s_fk σ p c j) = s_bg σ
  | 0 => rfl
  | j + 1 => fk_bg σ p c j
theorem fb_ex (σ : SG) (p c : Int) : ∀ j, s_ex (s_fb σ p c j) = s_ex σ
  | 0 => rfl
  | j + 1 => fb_ex σ p c j
theorem fk_fr (σ : SG) (p c : Int) {k : Nat} : ∀ {j : Nat}, (∀ i : Nat, i < j → k ≠ (16 * c + i).toNat) → s_fr (s_fk σ p c j) k = s_fr σ k
  | 0, _ => rfl
  | j + 1, h => by
    show va_up (s_fr (s_fk σ p c j)) _ _ k = _
    rw [up_n (h j (by omega))]
    exact fk_fr σ p c (fun i hi => h i (by omega))
theorem fb_bg (σ : SG) (p c : Int) {k : Nat} : ∀ {j : Nat}, (∀ i : Nat, i < j → k ≠ (4 * c + i).toNat) → s_bg (s_fb σ p c j) k = s_bg σ k
  | 0, _ => rfl
  | j + 1, h => by
    show va_up (s_bg (s_fb σ p c j)) _ _ k = _
    rw [up_n (h j (by omega))]
    exact fb_bg σ p c (fun i hi => h i (by omega))
theorem inv_fk {σ : SG} (hi : Inv σ) {p c : Int} (hc : 0 ≤ c ∧ c < 4 ∧ s_ex σ c.toNat = 1) : ∀ j : Nat, j ≤ 16 → Inv (s_fk σ p c j)
  | 0, _ => hi
  | j + 1, h => by
    have h1 := inv_fk hi hc (p := p) j (by omega)
    refine inv_fr h1 (by omega) (fo_rng h1 p j) (Or.inr ?_)
    rw [fk_ex, show (16 * c + (j : Int)).toNat / 16 = c.toNat by omega]
    exact hc.2.2
theorem inv_fb {σ : SG} (hi : Inv σ) {p c : Int} (hc : 0 ≤ c ∧ c < 4 ∧ s_ex σ c.toNat = 1) : ∀ j : Nat, j ≤ 4 → Inv (s_fb σ p c j)
  | 0, _ => hi
  | j + 1, h => by
    refine inv_bg (inv_fb hi hc j (by omega)) (by omega) (b2_rng _) (Or.inr ?_)
    rw [fb_ex, show (4 * c + (j : Int)).toNat / 4 = c.toNat by omega]
    exact hc.2.2
theorem inv_for {σ : SG} (hi : Inv σ) {p : Int} (h : lup σ ≠ -1) : Inv (s_for σ p) := by
  have h1 := lup_rng σ
  have hx : s_ex (s_setex σ (lup σ).toNat 1) (lup σ).toNat = 1 := up_s _ _ _
  refine inv_fb (inv_fk (inv_ex1 hi (by omega)) ⟨by omega, by omega, hx⟩ 16 (by omega)) ⟨by omega, by omega, ?_⟩ 4 (by omega)
  rw [fk_ex]
  exact hx
/-- a process ends: its frames, its groups -/
def s_le (σ : SG) (p : Int) : Nat → SG
  | 0 => σ
  | j + 1 => s_setfr (s_le σ p j) (16 * p + j).toNat (-1)
def s_ls (σ : SG) (p : Int) : Nat → SG
  | 0 => σ
  | j + 1 => s_setbg (s_ls σ p j) (4 * p + j).toNat 0
def s_end (σ : SG) (p : Int) : SG := s_setex (s_ls (s_le σ p 16) p 4) p.toNat 0
theorem inv_le {σ : SG} (hi : Inv σ) {p : Int} (hp : 0 ≤ p ∧ p < 4) : ∀ j : Nat, j ≤ 16 → Inv (s_le σ p j)
  | 0, _ => hi
  | j + 1, h => inv_fr (inv_le hi hp j (by omega)) (by omega) (by omega) (Or.inl rfl)
theorem inv_ls {σ : SG} (hi : Inv σ) {p : Int} (hp : 0 ≤ p ∧ p < 4) : ∀ j : Nat, j ≤ 4 → Inv (s_ls σ p j)
  | 0, _ => hi
  | j + 1, h => inv_bg (inv_ls hi hp j (by omega)) (by omega) (Or.inl rfl) (Or.inl rfl)
theorem le_fr (σ : SG) {p : Int} (hp : 0 ≤ p ∧ p < 4) : ∀ {j : Nat} (i : Nat), i < j → s_fr (s_le σ p j) (16 * p.toNat + i) = -1
  | 0, _, h => absurd h (Nat.not_lt_zero _)
  | j + 1, i, h => by
    show va_up (s_fr (s_le σ p j)) (16 * p + j).toNat (-1) _ = _
    by_cases q : 16 * p.toNat + i = (16 * p + (j : Int)).toNat
    · rw [q, up_s]
    · rw [up_n q]
      exact le_fr σ hp i (by omega)
theorem ls_fr (σ : SG) (p : Int) : ∀ j, s_fr (s_ls σ p j) = s_fr σ
  | 0 => rfl
  | j + 1 => ls_fr σ p j
theorem ls_bg (σ : SG) {p : Int} (hp : 0 ≤ p ∧ p < 4) : ∀ {j : Nat} (i : Nat), i < j → s_bg (s_ls σ p j) (4 * p.toNat + i) = 0
  | 0, _, h => absurd h (Nat.not_lt_zero _)
  | j + 1, i, h => by
    show va_up (s_bg (s_ls σ p j)) (4 * p + j).toNat 0 _ = _
    by_cases q : 4 * p.toNat + i = (4 * p + (j : Int)).toNat
    · rw [q, up_s]
    · rw [up_n q]
      exact ls_bg σ hp i (by omega)
theorem inv_end {σ : SG} (hi : Inv σ) {p : Int} (hp : 0 ≤ p ∧ p < 4) : Inv (s_end σ p) := by
  refine inv_ex0 (inv_ls (inv_le hi hp 16 (by omega)) hp 4 (by omega)) (by omega) (fun v hv => ?_) (fun g hg => ?_)
  · rw [ls_fr]
    exact le_fr σ hp v hv
  · exact ls_bg _ hp g hg
theorem nff_let {σ : SG} (hi : Inv σ) {p v : Int} (hp : 0 ≤ p ∧ p < 4) (hv : 0 ≤ v ∧ v < 16) : nff (s_setfr σ (16 * p + v).toNat (-1)) = nff σ + lg σ p v := by
  have e0 := fo_in (σ := σ) hp hv
  have h1 := hi.1 (16 * p + v).toNat
  unfold lg
  rw [e0]
  by_cases q : s_fr σ (16 * p + v).toNat = -1
  · rw [if_pos q]
    unfold s_setfr
    rw [up_id q]
    exact (Int.add_zero _).symm
  · rw [if_neg q]
    have h2 := ct_upd (p := fun f => decide (uses (s_fr σ) f = 0)) (q := fun f => decide (uses (va_up (s_fr σ) (16 * p + v).toNat (-1)) f = 0)) (i := (s_fr σ (16 * p + v).toNat).toNat) (n := 32) (by omega) (fun j hj => by
      have h3 := uses_up (s_fr σ) (k := (16 * p + v).toNat) (-1) j (by omega)
      rw [if_neg (by omega), if_neg (by omega)] at h3
      have h4 : uses (va_up (s_fr σ) (16 * p + v).toNat (-1)) j = uses (s_fr σ) j := by omega
      simp only [h4])
    have h3 := uses_up (s_fr σ) (k := (16 * p + v).toNat) (-1) (s_fr σ (16 * p + v).toNat) (by omega)
    rw [if_pos rfl, if_neg (by omega)] at h3
    have h4 := uses_pos (fr := s_fr σ) (k := (16 * p + v).toNat) (g := s_fr σ (16 * p + v).toNat) (by omega) rfl
    simp only [decide_eq_true_eq, Int.toNat_of_nonneg (show 0 ≤ s_fr σ (16 * p + v).toNat by omega)] at h2
    rw [if_neg (show ¬ uses (s_fr σ) (s_fr σ (16 * p + v).toNat) = 0 by omega)] at h2
    show ct (fun f => decide (uses (va_up (s_fr σ) (16 * p + v).toNat (-1)) f = 0)) 32 = ct (fun f => decide (uses (s_fr σ) f = 0)) 32 + _
    by_cases z : uses (s_fr σ) (s_fr σ (16 * p + v).toNat) = 1
    · rw [if_pos z]
      rw [if_pos (show uses (va_up (s_fr σ) (16 * p + v).toNat (-1)) (s_fr σ (16 * p + v).toNat) = 0 by omega)] at h2
      omega
    · rw [if_neg z]
      rw [if_neg (show ¬ uses (va_up (s_fr σ) (16 * p + v).toNat (-1)) (s_fr σ (16 * p + v).toNat) = 0 by omega)] at h2
      omega
/-! marriages -/
def ip (σ : SG) (p g : Int) : Bool := decide (fo σ p (4 * g) ≠ -1 ∧ (fo σ p (4 * g)).tmod 4 = 0 ∧ ∀ i : Nat, i < 4 → 1 ≤ i → fo σ p (4 * g + i) = fo σ p (4 * g) + i)
def wn (σ : SG) (p g : Int) : Int := if big σ p g = true then 1 else if pf σ p g < 4 then 2 else if 0 < ps σ p g then 3 else if ip σ p g = true ∨ lfr σ ≠ -1 then 0 else 4
theorem wn_rng (σ : SG) (p g : Int) : 0 ≤ wn σ p g ∧ wn σ p g ≤ 4 := by
  unfold wn
  (repeat' split) <;> omega
def s_mv (σ : SG) (p g r : Int) : Nat → SG
  | 0 => σ
  | j + 1 => s_setfr (s_setva (s_mv σ p g r j) (4 * r + j).toNat (vo (s_mv σ p g r j) p (4 * g + j))) (16 * p + (4 * g + j)).toNat (4 * r + j)
def s_mar (σ : SG) (p g : Int) : SG := if ip σ p g = true then s_addco (s_setbg σ (4 * p + g).toNat 1) 0 else s_addco (s_setbg (s_mv σ p g (lfr σ) 4) (4 * p + g).toNat 1) 4
theorem mv_ex (σ : SG) (p g r : Int) : ∀ j, s_ex (s_mv σ p g r j) = s_ex σ
  | 0 => rfl
  | j + 1 => mv_ex σ p g r j
theorem mv_fr (σ : SG) (p g r : Int) {k : Nat} : ∀ {j : Nat}, (∀ i : Nat, i < j → k ≠ (16 * p + (4 * g + i)).toNat) → s_fr (s_mv σ p g r j) k = s_fr σ k
  | 0, _ => rfl
  | j + 1, h => by
    show va_up (s_fr (s_mv σ p g r j)) _ _ k = _
    rw [up_n (h j (by omega))]
    exact mv_fr σ p g r (fun i hi => h i (by omega))
theorem mv_fo {σ : SG} {p g r : Int} (hp : 0 ≤ p ∧ p < 4) (hg : 0 ≤ g ∧ g < 4) {j : Nat} (hj : j < 4) : fo (s_mv σ p g r j) p (4 * g + j) = fo σ p (4 * g + j) := by
  rw [fo_in hp (by omega), fo_in hp (by omega)]
  exact mv_fr σ p g r (fun i hi => by omega)
theorem pf_all {σ : SG} {p g : Int} (h : ¬ pf σ p g < 4) {j : Nat} (hj : j < 4) : fo σ p (4 * g + j) ≠ -1 := by
  have h1 := pf_rng σ p g
  intro q
  have h2 := ct_upd (p := fun i : Nat => decide (fo σ p (4 * g + i) ≠ -1)) (q := va_up (fun i : Nat => decide (fo σ p (4 * g + i) ≠ -1)) j true) (i := j) (n := 4) hj (fun k hk => up_n hk)
  have h3 := ct_rng (va_up (fun i : Nat => decide (fo σ p (4 * g + i) ≠ -1)) j true) 4
  rw [up_s, if_neg (by simp [q]), if_pos rfl] at h2
  have h4 : pf σ p g = ct (fun i : Nat => decide (fo σ p (4 * g + i) ≠ -1)) 4 := rfl
  omega
theorem inv_mv {σ : SG} (hi : Inv σ) {p g r : Int} (hp : 0 ≤ p ∧ p < 4 ∧ s_ex σ p.toNat = 1) (hg : 0 ≤ g ∧ g < 4) (hr : 0 ≤ r ∧ r < 8) (hf : ∀ j : Nat, j < 4 → fo σ p (4 * g + j) ≠ -1) : ∀ j : Nat, j ≤ 4 → Inv (s_mv σ p g r j)
  | 0, _ => hi
  | j + 1, h => by
    have h1 := inv_mv hi hp hg hr hf j (by omega)
    have h2 : 0 ≤ vo (s_mv σ p g r j) p (4 * g + j) ∧ vo (s_mv σ p g r j) p (4 * g + j) < 100 := by
      unfold vo
      rw [mv_fo ⟨hp.1, hp.2.1⟩ hg (by omega), if_neg (hf j (by omega))]
      exact h1.2.2.2.2.1 _
    refine inv_fr (inv_va h1 (by omega) h2) (by omega) (by omega) (Or.inr ?_)
    show s_ex (s_mv σ p g r j) _ = 1
    rw [mv_ex, show (16 * p + (4 * g + (j : Int))).toNat / 16 = p.toNat by omega]
    exact hp.2.2
theorem wn_0 {σ : SG} {p g : Int} (h : wn σ p g = 0) : ¬ big σ p g = true ∧ ¬ pf σ p g < 4 ∧ ¬ 0 < ps σ p g ∧ (ip σ p g = true ∨ lfr σ ≠ -1) := by
  unfold wn at h
  by_cases a : big σ p g = true
  · rw [if_pos a] at h; cases h
  · rw [if_neg a] at h
    by_cases b : pf σ p g < 4
    · rw [if_pos b] at h; cases h
    · rw [if_neg b] at h
      by_cases c : 0 < ps σ p g
      · rw [if_pos c] at h; cases h
      · rw [if_neg c] at h
        by_cases d : ip σ p g = true ∨ lfr σ ≠ -1
        · exact ⟨a, b, c, d⟩
        · rw [if_neg d] at h; cases h
theorem inv_mar {σ : SG} (hi : Inv σ) {p g : Int} (hp : 0 ≤ p ∧ p < 4 ∧ s_ex σ p.toNat = 1) (hg : 0 ≤ g ∧ g < 4) (h : wn σ p g = 0) : Inv (s_mar σ p g) := by
  obtain ⟨a, b, c, d⟩ := wn_0 h
  have h1 := lfr_rng σ
  unfold s_mar
  split
  · refine inv_co (inv_bg hi (by omega) (Or.inr rfl) (Or.inr ?_)) 0
    rw [show (4 * p + g).toNat / 4 = p.toNat by omega]
    exact hp.2.2
  · rename_i q
    have d1 : lfr σ ≠ -1 := d.resolve_left q
    refine inv_co (inv_bg (inv_mv hi hp hg (by omega) (fun j hj => pf_all b hj) 4 (by omega)) (by omega) (Or.inr rfl) (Or.inr ?_)) 4
    rw [mv_ex, show (4 * p + g).toNat / 4 = p.toNat by omega]
    exact hp.2.2
/-- whose turn it is: in place, or otherwise -/
def mi1 (σ : SG) : Int := ff (fun k => hasP σ ((k / 4 : Nat) : Int) && decide (wn σ ((k / 4 : Nat) : Int) ((k % 4 : Nat) : Int) = 0) && ip σ ((k / 4 : Nat) : Int) ((k % 4 : Nat) : Int)) 16
def mi0 (σ : SG) : Int := ff (fun k => hasP σ ((k / 4 : Nat) : Int) && decide (wn σ ((k / 4 : Nat) : Int) ((k % 4 : Nat) : Int) = 0) && !(ip σ ((k / 4 : Nat) : Int) ((k % 4 : Nat) : Int))) 16
def nxt (σ : SG) : Int := if mi1 σ = -1 then mi0 σ else mi1 σ
theorem nxt_rng (σ : SG) : -1 ≤ nxt σ ∧ nxt σ < 16 := by
  have h1 := ff_rng (fun k => hasP σ ((k / 4 : Nat) : Int) && decide (wn σ ((k / 4 : Nat) : Int) ((k % 4 : Nat) : Int) = 0) && ip σ ((k / 4 : Nat) : Int) ((k % 4 : Nat) : Int)) 16
  have h2 := ff_rng (fun k => hasP σ ((k / 4 : Nat) : Int) && decide (wn σ ((k / 4 : Nat) : Int) ((k % 4 : Nat) : Int) = 0) && !(ip σ ((k / 4 : Nat) : Int) ((k % 4 : Nat) : Int))) 16
  unfold nxt mi1 mi0
  split <;> omega
theorem nxt_ok {σ : SG} (h : nxt σ ≠ -1) : (0 ≤ nxt σ / 4 ∧ nxt σ / 4 < 4 ∧ s_ex σ (nxt σ / 4).toNat = 1) ∧ (0 ≤ nxt σ % 4 ∧ nxt σ % 4 < 4) ∧ wn σ (nxt σ / 4) (nxt σ % 4) = 0 := by
  have key : ∀ k : Nat, k < 16 → hasP σ ((k / 4 : Nat) : Int) = true → wn σ ((k / 4 : Nat) : Int) ((k % 4 : Nat) : Int) = 0 → (0 ≤ (k : Int) / 4 ∧ (k : Int) / 4 < 4 ∧ s_ex σ ((k : Int) / 4).toNat = 1) ∧ (0 ≤ (k : Int) % 4 ∧ (k : Int) % 4 < 4) ∧ wn σ ((k : Int) / 4) ((k : Int) % 4) = 0 := by
    intro k hk h1 h2
    have h3 := ex_of h1
    refine ⟨⟨by omega, by omega, ?_⟩, ⟨by omega, by omega⟩, h2⟩
    have h4 := h3.2.2
    exact h4
  by_cases q : mi1 σ = -1
  · have e : nxt σ = mi0 σ := by unfold nxt; rw [if_pos q]
    rw [e] at h ⊢
    rcases ff_cases (fun k => hasP σ ((k / 4 : Nat) : Int) && decide (wn σ ((k / 4 : Nat) : Int) ((k % 4 : Nat) : Int) = 0) && !(ip σ ((k / 4 : Nat) : Int) ((k % 4 : Nat) : Int))) 16 with ⟨h1, -⟩ | ⟨k, h1, h2, h3, -⟩
    · exact absurd h1 h
    · have e2 : mi0 σ = k := h1
      rw [e2]
      rw [Bool.and_eq_true, Bool.and_eq_true, decide_eq_true_eq] at h3
      exact key k h2 h3.1.1 h3.1.2
  · have e : nxt σ = mi1 σ := by unfold nxt; rw [if_neg q]
    rw [e] at h ⊢
    rcases ff_cases (fun k => hasP σ ((k / 4 : Nat) : Int) && decide (wn σ ((k / 4 : Nat) : Int) ((k % 4 : Nat) : Int) = 0) && ip σ ((k / 4 : Nat) : Int) ((k % 4 : Nat) : Int)) 16 with ⟨h1, -⟩ | ⟨k, h1, h2, h3, -⟩
    · exact absurd h1 h
    · have e2 : mi1 σ = k := h1
      rw [e2]
      rw [Bool.and_eq_true, Bool.and_eq_true, decide_eq_true_eq] at h3
      exact key k h2 h3.1.1 h3.1.2
/-! pressure -/
def li (σ : SG) : Int := ff (fun k => !(big σ ((k / 16 : Nat) : Int) ((k % 16 / 4 : Nat) : Int)) && decide (uo σ ((k / 16 : Nat) : Int) ((k % 16 : Nat) : Int) = 1) && decide (vo σ ((k / 16 : Nat) : Int) ((k % 16 : Nat) : Int) = 0)) 64
theorem li_rng (σ : SG) : -1 ≤ li σ ∧ li σ < 64 := ff_rng _ 64
def s_los (σ : SG) : SG := s_addlo (s_setfr σ (li σ).toNat (-1)) 1
theorem inv_los {σ : SG} (hi : Inv σ) (h : li σ ≠ -1) : Inv (s_los σ) := inv_lo (inv_fr hi (by have := li_rng σ; omega) (by omega) (Or.inl rfl)) 1
/-- the group with the most empty frames so far, and how many they are -/
def tb (σ : SG) : Nat → Int × Int
  | 0 => (-1, 0)
  | k + 1 => if big σ ((k / 4 : Nat) : Int) ((k % 4 : Nat) : Int) = true ∧ ps σ ((k / 4 : Nat) : Int) ((k % 4 : Nat) : Int) = 0 ∧ (tb σ k).2 < pz σ ((k / 4 : Nat) : Int) ((k % 4 : Nat) : Int) then ((k : Int), pz σ ((k / 4 : Nat) : Int) ((k % 4 : Nat) : Int)) else tb σ k
theorem tb_rng (σ : SG) : ∀ k : Nat, (-1 ≤ (tb σ k).1 ∧ (tb σ k).1 < k) ∧ 0 ≤ (tb σ k).2 ∧ (tb σ k).2 ≤ 4
  | 0 => by simp [tb]
  | k + 1 => by
    have h1 := tb_rng σ k
    have h2 := pz_rng σ ((k / 4 : Nat) : Int) ((k % 4 : Nat) : Int)
    rw [tb]
    split
    · exact ⟨⟨by omega, by omega⟩, h2⟩
    · exact ⟨⟨h1.1.1, by omega⟩, h1.2⟩
def s_ter (σ : SG) : SG := s_torn σ ((tb σ 16).1 / 4) ((tb σ 16).1 % 4)
theorem inv_ter {σ : SG} (hi : Inv σ) (h : (tb σ 16).1 ≠ -1) : Inv (s_ter σ) := by
  have h1 := tb_rng σ 16
  exact inv_torn hi (by omega) (by omega)
def pst (σ : SG) (n : Int) : SG := if n ≤ nff σ then σ else if li σ ≠ -1 then s_los σ else if (tb σ 16).1 ≠ -1 then s_ter σ else σ
theorem inv_pst {σ : SG} (hi : Inv σ) (n : Int) : Inv (pst σ n) := by
  unfold pst
  split
  · exact hi
  · split
    · rename_i q; exact inv_los hi q
    · split
      · rename_i q; exact inv_ter hi q
      · exact hi
def itp (σ : SG) (n : Int) : Nat → SG
  | 0 => σ
  | j + 1 => pst (itp σ n j) n
theorem inv_itp {σ : SG} (hi : Inv σ) (n : Int) : ∀ j, Inv (itp σ n j)
  | 0 => hi
  | j + 1 => inv_pst (inv_itp hi n j) n
theorem itp_fix {σ : SG} {n : Int} {k : Nat} (h : pst (itp σ n k) n = itp σ n k) : ∀ d : Nat, itp σ n (k + d) = itp σ n k
  | 0 => rfl
  | d + 1 => by
    show pst (itp σ n (k + d)) n = _
    rw [itp_fix h d, h]
def s_pre (σ : SG) (n : Int) : SG := itp σ n 80
theorem n_dv (k : Nat) (d : Nat) : Int.tdiv (k : Int) (d : Int) = ((k / d : Nat) : Int) := by
  rw [Int.tdiv_eq_ediv_of_nonneg (by omega)]
  rfl
theorem n_md (k : Nat) (d : Nat) : Int.tmod (k : Int) (d : Int) = ((k % d : Nat) : Int) := by
  rw [Int.tmod_eq_emod_of_nonneg (by omega)]
  rfl
end CK
