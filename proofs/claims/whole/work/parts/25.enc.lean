/-! THE REFERENCE'S OBJECT, as states -/
section EN
def enc (σ : SG) (k : Nat) : Int := if k < 4 then s_ex σ k else if k < 68 then s_fr σ (k - 4) else if k < 84 then s_bg σ (k - 68) else if k < 116 then s_va σ (k - 84) else if k = 116 then s_co σ else if k = 117 then s_fa σ else if k = 118 then s_te σ else if k = 119 then s_lo σ else if k = 120 then s_ea σ else 0
def encs (m : Nat) (f : Nat → SG) (k : Nat) : Int := if k < m then enc (f (k / 121)) (k % 121) else 0
abbrev NT : Type := Int × SG × SG × SG × (Nat → SG) × Int × (Nat → SG) × (Nat → Int) × (Nat → Int) × Int
abbrev n_th (ν : NT) : Int := ν.1
abbrev n_st (ν : NT) : SG := ν.2.1
abbrev n_ke (ν : NT) : SG := ν.2.2.1
abbrev n_sk (ν : NT) : SG := ν.2.2.2.1
abbrev n_hi (ν : NT) : Nat → SG := ν.2.2.2.2.1
abbrev n_re (ν : NT) : Int := ν.2.2.2.2.2.1
abbrev n_sl (ν : NT) : Nat → SG := ν.2.2.2.2.2.2.1
abbrev n_sv (ν : NT) : Nat → Int := ν.2.2.2.2.2.2.2.1
abbrev n_tx (ν : NT) : Nat → Int := ν.2.2.2.2.2.2.2.2.1
abbrev n_tl (ν : NT) : Int := ν.2.2.2.2.2.2.2.2.2
def n_setth (ν : NT) (z : Int) : NT := (z, ν.2)
def n_setst (ν : NT) (σ : SG) : NT := (ν.1, σ, ν.2.2)
def n_setke (ν : NT) (σ : SG) : NT := (ν.1, ν.2.1, σ, ν.2.2.2)
def n_setsk (ν : NT) (σ : SG) : NT := (ν.1, ν.2.1, ν.2.2.1, σ, ν.2.2.2.2)
def n_sethi (ν : NT) (f : Nat → SG) : NT := (ν.1, ν.2.1, ν.2.2.1, ν.2.2.2.1, f, ν.2.2.2.2.2)
def n_setre (ν : NT) (z : Int) : NT := (ν.1, ν.2.1, ν.2.2.1, ν.2.2.2.1, ν.2.2.2.2.1, z, ν.2.2.2.2.2.2)
def n_setsl (ν : NT) (f : Nat → SG) : NT := (ν.1, ν.2.1, ν.2.2.1, ν.2.2.2.1, ν.2.2.2.2.1, ν.2.2.2.2.2.1, f, ν.2.2.2.2.2.2.2)
def n_setsv (ν : NT) (f : Nat → Int) : NT := (ν.1, ν.2.1, ν.2.2.1, ν.2.2.2.1, ν.2.2.2.2.1, ν.2.2.2.2.2.1, ν.2.2.2.2.2.2.1, f, ν.2.2.2.2.2.2.2.2)
def n_settx (ν : NT) (f : Nat → Int) : NT := (ν.1, ν.2.1, ν.2.2.1, ν.2.2.2.1, ν.2.2.2.2.1, ν.2.2.2.2.2.1, ν.2.2.2.2.2.2.1, ν.2.2.2.2.2.2.2.1, f, ν.2.2.2.2.2.2.2.2.2)
def n_settl (ν : NT) (z : Int) : NT := (ν.1, ν.2.1, ν.2.2.1, ν.2.2.2.1, ν.2.2.2.2.1, ν.2.2.2.2.2.1, ν.2.2.2.2.2.2.1, ν.2.2.2.2.2.2.2.1, ν.2.2.2.2.2.2.2.2.1, z)
def dE (ν : NT) : DT := (n_th ν, enc (n_st ν), enc (n_ke ν), enc (n_sk ν), encs 1694 (n_hi ν), n_re ν, encs 242 (n_sl ν), n_sv ν, n_tx ν, n_tl ν)
def NInv (ν : NT) : Prop := Inv (n_st ν) ∧ (0 ≤ n_re ν ∧ n_re ν ≤ 14) ∧ (∀ j : Nat, (j : Int) < n_re ν → Inv (n_hi ν j)) ∧ (∀ k, n_sv ν k = 0 ∨ n_sv ν k = 1) ∧ (∀ k, n_sv ν k = 1 → Inv (n_sl ν k)) ∧ (∀ k, 0 ≤ n_tx ν k ∧ n_tx ν k < 256) ∧ (0 ≤ n_tl ν ∧ n_tl ν ≤ 100)
theorem r_ex {σ : SG} {i : Int} (h : 0 ≤ i ∧ i < 4) : enc σ i.toNat = s_ex σ i.toNat := by unfold enc; rw [if_pos (by omega)]
theorem r_fr {σ : SG} {i : Int} (h : 4 ≤ i ∧ i < 68) : enc σ i.toNat = s_fr σ (i - 4).toNat := by unfold enc; rw [if_neg (by omega), if_pos (by omega), show i.toNat - 4 = (i - 4).toNat by omega]
theorem r_bg {σ : SG} {i : Int} (h : 68 ≤ i ∧ i < 84) : enc σ i.toNat = s_bg σ (i - 68).toNat := by unfold enc; rw [if_neg (by omega), if_neg (by omega), if_pos (by omega), show i.toNat - 68 = (i - 68).toNat by omega]
theorem r_va {σ : SG} {i : Int} (h : 84 ≤ i ∧ i < 116) : enc σ i.toNat = s_va σ (i - 84).toNat := by unfold enc; rw [if_neg (by omega), if_neg (by omega), if_neg (by omega), if_pos (by omega), show i.toNat - 84 = (i - 84).toNat by omega]
theorem e_ex {σ : SG} {k : Nat} {x : Int} (h : k < 4) : va_up (enc σ) k x = enc (s_setex σ k x) := by
  funext j
  by_cases q : j = k
  · subst q
    rw [up_s]
    unfold enc
    rw [if_pos h]
    exact (up_s _ _ _).symm
  · rw [up_n q]
    unfold enc
    (repeat' split) <;> first | rfl | exact (up_n (by omega)).symm
theorem e_fr {σ : SG} {k : Nat} {x : Int} (h : k < 64) : va_up (enc σ) (4 + k) x = enc (s_setfr σ k x) := by
  funext j
  by_cases q : j = 4 + k
  · subst q
    rw [up_s]
    unfold enc
    rw [if_neg (by omega), if_pos (by omega), Nat.add_sub_cancel_left]
    exact (up_s _ _ _).symm
  · rw [up_n q]
    unfold enc
    (repeat' split) <;> first | rfl | exact (up_n (by omega)).symm
theorem e_bg {σ : SG} {k : Nat} {x : Int} (h : k < 16) : va_up (enc σ) (68 + k) x = enc (s_setbg σ k x) := by
  funext j
  by_cases q : j = 68 + k
  · subst q
    rw [up_s]
    unfold enc
    rw [if_neg (by omega), if_neg (by omega), if_pos (by omega), Nat.add_sub_cancel_left]
    exact (up_s _ _ _).symm
  · rw [up_n q]
    unfold enc
    (repeat' split) <;> first | rfl | exact (up_n (by omega)).symm
theorem e_va {σ : SG} {k : Nat} {x : Int} (h : k < 32) : va_up (enc σ) (84 + k) x = enc (s_setva σ k x) := by
  funext j
  by_cases q : j = 84 + k
  · subst q
    rw [up_s]
    unfold enc
    rw [if_neg (by omega), if_neg (by omega), if_neg (by omega), if_pos (by omega), Nat.add_sub_cancel_left]
    exact (up_s _ _ _).symm
  · rw [up_n q]
    unfold enc
    (repeat' split) <;> first | rfl | exact (up_n (by omega)).symm
def s_setco (σ : SG) (n : Int) : SG := (σ.1, σ.2.1, σ.2.2.1, σ.2.2.2.1, σ.2.2.2.2.1, n, σ.2.2.2.2.2.2)
def s_setfa (σ : SG) (n : Int) : SG := (σ.1, σ.2.1, σ.2.2.1, σ.2.2.2.1, σ.2.2.2.2.1, σ.2.2.2.2.2.1, n, σ.2.2.2.2.2.2.2)
def s_sette (σ : SG) (n : Int) : SG := (σ.1, σ.2.1, σ.2.2.1, σ.2.2.2.1, σ.2.2.2.2.1, σ.2.2.2.2.2.1, σ.2.2.2.2.2.2.1, n, σ.2.2.2.2.2.2.2.2)
def s_setlo (σ : SG) (n : Int) : SG := (σ.1, σ.2.1, σ.2.2.1, σ.2.2.2.1, σ.2.2.2.2.1, σ.2.2.2.2.2.1, σ.2.2.2.2.2.2.1, σ.2.2.2.2.2.2.2.1, n)
theorem e_co {σ : SG} {x : Int} : va_up (enc σ) 116 x = enc (s_setco σ x) := by
  funext j
  by_cases q : j = 116
  · subst q
    rw [up_s]
    rfl
  · rw [up_n q]
    unfold enc
    (repeat' split) <;> first | rfl | omega
theorem e_fa {σ : SG} {x : Int} : va_up (enc σ) 117 x = enc (s_setfa σ x) := by
  funext j
  by_cases q : j = 117
  · subst q
    rw [up_s]
    rfl
  · rw [up_n q]
    unfold enc
    (repeat' split) <;> first | rfl | omega
theorem e_te {σ : SG} {x : Int} : va_up (enc σ) 118 x = enc (s_sette σ x) := by
  funext j
  by_cases q : j = 118
  · subst q
    rw [up_s]
    rfl
  · rw [up_n q]
    unfold enc
    (repeat' split) <;> first | rfl | omega
theorem e_lo {σ : SG} {x : Int} : va_up (enc σ) 119 x = enc (s_setlo σ x) := by
  funext j
  by_cases q : j = 119
  · subst q
    rw [up_s]
    rfl
  · rw [up_n q]
    unfold enc
    (repeat' split) <;> first | rfl | omega
theorem e_ea {σ : SG} {x : Int} : va_up (enc σ) 120 x = enc (s_setea σ x) := by
  funext j
  by_cases q : j = 120
  · subst q
    rw [up_s]
    rfl
  · rw [up_n q]
    unfold enc
    (repeat' split) <;> first | rfl | omega
theorem w4_ex {κ : KT} {ν : NT} {o : Nat → Int} {i x : Int} {k : Nat} (hk : i.toNat = k) (h : k < 4) : (cW κ (dE ν) o).set 80 (cArr 0 121 (va_up (enc (n_st ν)) i.toNat x)) = cW κ (dE (n_setst ν (s_setex (n_st ν) k x))) o := by
  rw [hk, e_ex h]
  exact w_st
theorem w4_fr {κ : KT} {ν : NT} {o : Nat → Int} {i x : Int} {k : Nat} (hk : i.toNat = 4 + k) (h : k < 64) : (cW κ (dE ν) o).set 80 (cArr 0 121 (va_up (enc (n_st ν)) i.toNat x)) = cW κ (dE (n_setst ν (s_setfr (n_st ν) k x))) o := by
  rw [hk, e_fr h]
  exact w_st
theorem w4_bg {κ : KT} {ν : NT} {o : Nat → Int} {i x : Int} {k : Nat} (hk : i.toNat = 68 + k) (h : k < 16) : (cW κ (dE ν) o).set 80 (cArr 0 121 (va_up (enc (n_st ν)) i.toNat x)) = cW κ (dE (n_setst ν (s_setbg (n_st ν) k x))) o := by
  rw [hk, e_bg h]
  exact w_st
theorem w4_va {κ : KT} {ν : NT} {o : Nat → Int} {i x : Int} {k : Nat} (hk : i.toNat = 84 + k) (h : k < 32) : (cW κ (dE ν) o).set 80 (cArr 0 121 (va_up (enc (n_st ν)) i.toNat x)) = cW κ (dE (n_setst ν (s_setva (n_st ν) k x))) o := by
  rw [hk, e_va h]
  exact w_st
theorem w4_co {κ : KT} {ν : NT} {o : Nat → Int} {x : Int} : (cW κ (dE ν) o).set 80 (cArr 0 121 (va_up (enc (n_st ν)) (116 : Int).toNat (s_co (n_st ν) + x))) = cW κ (dE (n_setst ν (s_addco (n_st ν) x))) o := by
  rw [show (116 : Int).toNat = 116 from rfl, e_co]
  exact w_st
theorem w4_fa {κ : KT} {ν : NT} {o : Nat → Int} {x : Int} : (cW κ (dE ν) o).set 80 (cArr 0 121 (va_up (enc (n_st ν)) (117 : Int).toNat (s_fa (n_st ν) + x))) = cW κ (dE (n_setst ν (s_addfa (n_st ν) x))) o := by
  rw [show (117 : Int).toNat = 117 from rfl, e_fa]
  exact w_st
theorem w4_te {κ : KT} {ν : NT} {o : Nat → Int} {x : Int} : (cW κ (dE ν) o).set 80 (cArr 0 121 (va_up (enc (n_st ν)) (118 : Int).toNat (s_te (n_st ν) + x))) = cW κ (dE (n_setst ν (s_addte (n_st ν) x))) o := by
  rw [show (118 : Int).toNat = 118 from rfl, e_te]
  exact w_st
theorem w4_lo {κ : KT} {ν : NT} {o : Nat → Int} {x : Int} : (cW κ (dE ν) o).set 80 (cArr 0 121 (va_up (enc (n_st ν)) (119 : Int).toNat (s_lo (n_st ν) + x))) = cW κ (dE (n_setst ν (s_addlo (n_st ν) x))) o := by
  rw [show (119 : Int).toNat = 119 from rfl, e_lo]
  exact w_st
theorem w4_ea {κ : KT} {ν : NT} {o : Nat → Int} {x : Int} : (cW κ (dE ν) o).set 80 (cArr 0 121 (va_up (enc (n_st ν)) (120 : Int).toNat x)) = cW κ (dE (n_setst ν (s_setea (n_st ν) x))) o := by
  rw [show (120 : Int).toNat = 120 from rfl, e_ea]
  exact w_st
theorem v_th {κ : KT} {ν : NT} {o : Nat → Int} {z : Int} : (cW κ (dE ν) o).set 79 (cObj 4 ((objD (dE ν)).set 0 (vI z))) = cW κ (dE (n_setth ν z)) o := w_th (κ := κ) (δ := dE ν) (o := o) (z := z)
theorem v_re {κ : KT} {ν : NT} {o : Nat → Int} {z : Int} : (cW κ (dE ν) o).set 79 (cObj 4 ((objD (dE ν)).set 5 (vI z))) = cW κ (dE (n_setre ν z)) o := w_re (κ := κ) (δ := dE ν) (o := o) (z := z)
theorem v_tl {κ : KT} {ν : NT} {o : Nat → Int} {z : Int} : (cW κ (dE ν) o).set 79 (cObj 4 ((objD (dE ν)).set 9 (vI z))) = cW κ (dE (n_settl ν z)) o := w_tl (κ := κ) (δ := dE ν) (o := o) (z := z)
theorem v_st {κ : KT} {ν : NT} {o : Nat → Int} {σ : SG} : (cW κ (dE ν) o).set 80 (cArr 0 121 (enc σ)) = cW κ (dE (n_setst ν σ)) o := w_st
theorem v_ke {κ : KT} {ν : NT} {o : Nat → Int} {σ : SG} : (cW κ (dE ν) o).set 81 (cArr 0 121 (enc σ)) = cW κ (dE (n_setke ν σ)) o := w_ke
theorem v_sk {κ : KT} {ν : NT} {o : Nat → Int} {σ : SG} : (cW κ (dE ν) o).set 82 (cArr 0 121 (enc σ)) = cW κ (dE (n_setsk ν σ)) o := w_sk
theorem v_hi {κ : KT} {ν : NT} {o : Nat → Int} {f : Nat → SG} : (cW κ (dE ν) o).set 83 (cArr 0 1694 (encs 1694 f)) = cW κ (dE (n_sethi ν f)) o := w_hi
theorem v_sl {κ : KT} {ν : NT} {o : Nat → Int} {f : Nat → SG} : (cW κ (dE ν) o).set 84 (cArr 0 242 (encs 242 f)) = cW κ (dE (n_setsl ν f)) o := w_sl
theorem v_sv {κ : KT} {ν : NT} {o : Nat → Int} {f : Nat → Int} : (cW κ (dE ν) o).set 85 (cArr 0 2 f) = cW κ (dE (n_setsv ν f)) o := w_sv
theorem v_tx {κ : KT} {ν : NT} {o : Nat → Int} {f : Nat → Int} : (cW κ (dE ν) o).set 86 (cArr 0 100 f) = cW κ (dE (n_settx ν f)) o := w_tx
theorem n_same (ν : NT) : n_setst ν (n_st ν) = ν := rfl
theorem n_st2 (ν : NT) (σ τ : SG) : n_setst (n_setst ν σ) τ = n_setst ν τ := rfl
/-- a row of 121 numbers is copied -/
def cp121 (F G : Nat → Int) (f t : Nat) : Nat → Int := fun k => if t ≤ k ∧ k < t + 121 then F (f + (k - t)) else G k
theorem enc_out {σ : SG} {k : Nat} (h : 121 ≤ k) : enc σ k = 0 := by
  unfold enc
  rw [if_neg (by omega), if_neg (by omega), if_neg (by omega), if_neg (by omega), if_neg (by omega), if_neg (by omega), if_neg (by omega), if_neg (by omega), if_neg (by omega)]
theorem cp_ss (σ τ : SG) : cp121 (enc σ) (enc τ) 0 0 = enc σ := by
  funext k
  unfold cp121
  by_cases q : k < 121
  · rw [if_pos (by omega), show 0 + (k - 0) = k by omega]
  · rw [if_neg (by omega), enc_out (by omega), enc_out (by omega)]
theorem cp_sh {σ : SG} {f : Nat → SG} {m i : Nat} (h : 121 * i + 121 ≤ m) : cp121 (enc σ) (encs m f) 0 (121 * i) = encs m (va_up f i σ) := by
  funext k
  unfold cp121 encs
  by_cases q : 121 * i ≤ k ∧ k < 121 * i + 121
  · rw [if_pos q, if_pos (by omega), show k / 121 = i by omega, show k % 121 = 0 + (k - 121 * i) by omega, up_s]
  · rw [if_neg q]
    by_cases z : k < m
    · rw [if_pos z, if_pos z, up_n (by omega)]
    · rw [if_neg z, if_neg z]
theorem cp_hs {σ : SG} {f : Nat → SG} {m i : Nat} (h : 121 * i + 121 ≤ m) : cp121 (encs m f) (enc σ) (121 * i) 0 = enc (f i) := by
  funext k
  unfold cp121 encs
  by_cases q : k < 121
  · rw [if_pos (by omega), if_pos (by omega), show (121 * i + (k - 0)) / 121 = i by omega, show (121 * i + (k - 0)) % 121 = k by omega]
  · rw [if_neg (by omega), enc_out (by omega), enc_out (by omega)]
/-! the first place from k on -/
def fx (p : Nat → Bool) (n k : Nat) : Int := ff (fun i => decide (k ≤ i) && p i) n
theorem fx_n (p : Nat → Bool) (n : Nat) : fx p n n = -1 := ff_none (fun j hj h => by
  rw [Bool.and_eq_true, decide_eq_true_eq] at h
  omega)
theorem fx_0 (p : Nat → Bool) (n : Nat) : fx p n 0 = ff p n := ff_cong (fun k hk => by simp)
theorem fx_s {p : Nat → Bool} {n k : Nat} (h : k < n) : fx p n k = if p k = true then (k : Int) else fx p n (k + 1) := by
  by_cases q : p k = true
  · rw [if_pos q]
    refine ff_some (by rw [Bool.and_eq_true, decide_eq_true_eq]; exact ⟨Nat.le_refl k, q⟩) (fun j hj hh => ?_) h
    rw [Bool.and_eq_true, decide_eq_true_eq] at hh
    omega
  · rw [if_neg q]
    refine ff_cong (fun i hi => ?_)
    by_cases z : i = k
    · subst z
      simp [q]
    · congr 1
      simp only [decide_eq_decide]
      omega
theorem fx_rng (p : Nat → Bool) (n k : Nat) : -1 ≤ fx p n k ∧ fx p n k < n := ff_rng _ n
theorem lp_dn {P : Nat → Prop} (n : Nat) (h0 : P 0) (hs : ∀ k, k < n → P k → P (k + 1)) : P n := by
  have h : ∀ k, k ≤ n → P k := by
    intro k
    induction k with
    | zero => intro _; exact h0
    | succ k ih => intro hk; exact hs k (by omega) (ih (by omega))
  exact h n (Nat.le_refl n)
/-! what the two say in different words -/
theorem lsf_nff (σ : SG) : lsf σ = -1 ↔ nff σ = 0 := by
  have e0 : nff σ = 0 ↔ ∀ f : Nat, f < 32 → ¬ uses (s_fr σ) f = 0 := by
    unfold nff
    rw [ct_zero]
    constructor
    · intro h f hf q; exact h f hf (decide_eq_true q)
    · intro h f hf q; exact h f hf (of_decide_eq_true q)
  rw [e0]
  unfold lsf lsf1 lsf0
  rcases ff_cases (fun f => decide (uses (s_fr σ) f = 0)) 32 with ⟨h1, h2⟩ | ⟨k, h1, h2, h3, h4⟩
  · have h5 : ff (fun f => decide (uses (s_fr σ) f = 0) && !(rf σ ((f : Int).tdiv 4))) 32 = -1 := ff_none (fun j hj q => by
      rw [Bool.and_eq_true] at q
      exact h2 j hj q.1)
    rw [h5, if_pos rfl, h1]
    exact ⟨fun _ f hf q => h2 f hf (decide_eq_true q), fun _ => rfl⟩
  · constructor
    · intro h
      exfalso
      rw [h1] at h
      by_cases q : ff (fun f => decide (uses (s_fr σ) f = 0) && !(rf σ ((f : Int).tdiv 4))) 32 = -1
      · rw [if_pos q] at h
        omega
      · rw [if_neg q] at h
        exact q h
    · intro h
      exact absurd (of_decide_eq_true h3) (h k h2)
theorem lfr_nff {σ : SG} (h : lfr σ ≠ -1) : nff σ ≠ 0 := by
  rcases ff_cases (fun r => rf σ r) 8 with ⟨h1, -⟩ | ⟨k, h1, h2, h3, -⟩
  · exact absurd h1 h
  · intro q
    have q2 := ct_zero.mp q (4 * k) (by omega)
    have h4 := of_decide_eq_true h3
    have h5 := ct_zero.mp h4 0 (by decide)
    have h6 := uses_rng (s_fr σ) (4 * (k : Int) + (0 : Nat))
    simp only [decide_eq_true_eq] at q2 h5
    apply q2
    have e : ((4 * k : Nat) : Int) = 4 * (k : Int) + (0 : Nat) := by omega
    rw [e]
    omega
theorem nex_p {σ : SG} {p : Int} (h : hasP σ p = true) : 1 ≤ nex σ := by
  have h1 := ex_of h
  have h2 := nex_rng σ
  rcases (by omega : nex σ = 0 ∨ 1 ≤ nex σ) with q | q
  · exact absurd (decide_eq_true h1.2.2) (ct_zero.mp q p.toNat (by omega))
  · exact q
end EN
