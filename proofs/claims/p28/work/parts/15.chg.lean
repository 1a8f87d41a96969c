/-! WHAT THE METHODS CHANGE in a state -/
section CH
def s_setfr (σ : SG) (k : Nat) (x : Int) : SG := (va_up (s_fr σ) k x, σ.2)
def s_setbg (σ : SG) (k : Nat) (x : Int) : SG := (σ.1, va_up (s_bg σ) k x, σ.2.2)
def s_setva (σ : SG) (k : Nat) (x : Int) : SG := (σ.1, σ.2.1, va_up (s_va σ) k x, σ.2.2.2)
def s_setex (σ : SG) (k : Nat) (x : Int) : SG := (σ.1, σ.2.1, σ.2.2.1, va_up (s_ex σ) k x, σ.2.2.2.2)
def s_setea (σ : SG) (x : Int) : SG := (σ.1, σ.2.1, σ.2.2.1, σ.2.2.2.1, x, σ.2.2.2.2.2)
def s_addco (σ : SG) (n : Int) : SG := (σ.1, σ.2.1, σ.2.2.1, σ.2.2.2.1, σ.2.2.2.2.1, s_co σ + n, σ.2.2.2.2.2.2)
def s_addfa (σ : SG) (n : Int) : SG := (σ.1, σ.2.1, σ.2.2.1, σ.2.2.2.1, σ.2.2.2.2.1, σ.2.2.2.2.2.1, s_fa σ + n, σ.2.2.2.2.2.2.2)
def s_addte (σ : SG) (n : Int) : SG := (σ.1, σ.2.1, σ.2.2.1, σ.2.2.2.1, σ.2.2.2.2.1, σ.2.2.2.2.2.1, σ.2.2.2.2.2.2.1, s_te σ + n, σ.2.2.2.2.2.2.2.2)
def s_addlo (σ : SG) (n : Int) : SG := (σ.1, σ.2.1, σ.2.2.1, σ.2.2.2.1, σ.2.2.2.2.1, σ.2.2.2.2.2.1, σ.2.2.2.2.2.2.1, σ.2.2.2.2.2.2.2.1, s_lo σ + n)
theorem up_s {α : Type} (f : Nat → α) (k : Nat) (v : α) : va_up f k v k = v := by simp [va_up]
theorem up_n {α : Type} {f : Nat → α} {k j : Nat} {v : α} (h : j ≠ k) : va_up f k v j = f j := by simp [va_up, h]
theorem up_id {α : Type} {f : Nat → α} {k : Nat} {v : α} (h : f k = v) : va_up f k v = f := by
  funext j
  unfold va_up
  split
  · subst_vars; rfl
  · rfl
theorem up_up {α : Type} (f : Nat → α) (k : Nat) (v u : α) : va_up (va_up f k v) k u = va_up f k u := by
  funext j
  unfold va_up
  split <;> rfl
theorem uses_up (fr : Nat → Int) {k : Nat} (x g : Int) (hk : k < 64) : uses (va_up fr k x) g + (if fr k = g then 1 else 0) = uses fr g + (if x = g then 1 else 0) := by
  have h := ct_upd (p := fun j => decide (fr j = g)) (q := fun j => decide (va_up fr k x j = g)) (i := k) (n := 64) hk (fun j hj => by simp only [up_n hj])
  simp only [up_s, decide_eq_true_eq] at h
  exact h
theorem uses_pos {fr : Nat → Int} {k : Nat} {g : Int} (hk : k < 64) (h : fr k = g) : 0 < uses fr g := by
  have h1 := uses_rng fr g
  rcases (by omega : uses fr g = 0 ∨ 0 < uses fr g) with q | q
  · exact absurd (decide_eq_true h) (ct_zero.mp q k hk)
  · exact q
/-- a frame is taken where there was none; let go -/
theorem uses_take {fr : Nat → Int} {k : Nat} {f : Int} (hk : k < 64) (h : fr k = -1) (hf : 0 ≤ f) : va_up (fun g : Nat => uses fr g) f.toNat (uses fr f + 1) = fun g : Nat => uses (va_up fr k f) g := by
  funext g
  have h1 := uses_up fr f g hk
  rw [h, if_neg (by omega)] at h1
  unfold va_up
  split
  · subst_vars
    rw [Int.toNat_of_nonneg hf, if_pos rfl] at h1
    have h2 : uses (va_up fr k f) f = uses fr f + 1 := by omega
    rw [Int.toNat_of_nonneg hf]
    exact h2.symm
  · rw [if_neg (by omega)] at h1
    have h2 : uses (va_up fr k f) g = uses fr g := by omega
    exact h2.symm
theorem uses_let {fr : Nat → Int} {k : Nat} (hk : k < 64) (h : 0 ≤ fr k) : va_up (fun g : Nat => uses fr g) (fr k).toNat (uses fr (fr k) - 1) = fun g : Nat => uses (va_up fr k (-1)) g := by
  funext g
  have h1 := uses_up fr (-1) g hk
  rw [show (if (-1 : Int) = (g : Int) then (1 : Int) else 0) = 0 from if_neg (by omega)] at h1
  show (if g = (fr k).toNat then uses fr (fr k) - 1 else uses fr g) = uses (va_up fr k (-1)) g
  by_cases q : g = (fr k).toNat
  · rw [if_pos q]
    have q2 : fr k = (g : Int) := by omega
    rw [if_pos q2] at h1
    rw [q2]
    omega
  · rw [if_neg q]
    rw [if_neg (by omega)] at h1
    omega
theorem mem_fr {σ : SG} {k : Nat} {x : Int} {us : Nat → Int} (h : us = fun g : Nat => uses (va_up (s_fr σ) k x) g) : (va_up (s_fr σ) k x, us, s_va σ, bsum (s_ex σ) 4, bsum (s_bg σ) 16, s_ea σ, s_co σ, s_fa σ, s_te σ, s_lo σ) = mem (s_setfr σ k x) := by rw [h]; rfl
theorem mem_bg {σ : SG} {k : Nat} {x y : Int} (h : y = bsum (va_up (s_bg σ) k x) 16) : (s_fr σ, fun g : Nat => uses (s_fr σ) g, s_va σ, bsum (s_ex σ) 4, y, s_ea σ, s_co σ, s_fa σ, s_te σ, s_lo σ) = mem (s_setbg σ k x) := by rw [h]; rfl
theorem mem_ex {σ : SG} {k : Nat} {x y : Int} (h : y = bsum (va_up (s_ex σ) k x) 4) : (s_fr σ, fun g : Nat => uses (s_fr σ) g, s_va σ, y, bsum (s_bg σ) 16, s_ea σ, s_co σ, s_fa σ, s_te σ, s_lo σ) = mem (s_setex σ k x) := by rw [h]; rfl
theorem inv_fr {σ : SG} (hi : Inv σ) {k : Nat} {x : Int} (hk : k < 64) (hx : -1 ≤ x ∧ x < 32) (he : x = -1 ∨ s_ex σ (k / 16) = 1) : Inv (s_setfr σ k x) := by
  obtain ⟨h1, h2, h3, h4, h5, h6, h7, h8, h9, h10, h11⟩ := hi
  refine ⟨fun j => ?_, fun j hj => ?_, h3, h4, h5, h6, h7, h8, h9, fun p v hp hv he0 => ?_, h11⟩
  · show -1 ≤ va_up (s_fr σ) k x j ∧ va_up (s_fr σ) k x j < 32
    unfold va_up
    split
    · exact hx
    · exact h1 j
  · show va_up (s_fr σ) k x j = 0
    rw [up_n (by omega)]
    exact h2 j hj
  · show va_up (s_fr σ) k x (16 * p + v) = -1
    unfold va_up
    split
    · rename_i q
      rcases he with e | e
      · exact e
      · rw [← q, show (16 * p + v) / 16 = p by omega] at e
        have he1 : s_ex σ p = 0 := he0
        omega
    · exact h10 p v hp hv he0
theorem inv_bg {σ : SG} (hi : Inv σ) {k : Nat} {x : Int} (hk : k < 16) (hx : x = 0 ∨ x = 1) (he : x = 0 ∨ s_ex σ (k / 4) = 1) : Inv (s_setbg σ k x) := by
  obtain ⟨h1, h2, h3, h4, h5, h6, h7, h8, h9, h10, h11⟩ := hi
  refine ⟨h1, h2, z_up h3 hx, fun j hj => ?_, h5, h6, h7, h8, h9, h10, fun p g hp hg he0 => ?_⟩
  · show va_up (s_bg σ) k x j = 0
    rw [up_n (by omega)]
    exact h4 j hj
  · show va_up (s_bg σ) k x (4 * p + g) = 0
    unfold va_up
    split
    · rename_i q
      rcases he with e | e
      · exact e
      · rw [← q, show (4 * p + g) / 4 = p by omega] at e
        have he1 : s_ex σ p = 0 := he0
        omega
    · exact h11 p g hp hg he0
theorem inv_va {σ : SG} (hi : Inv σ) {k : Nat} {x : Int} (hk : k < 32) (hx : 0 ≤ x ∧ x < 100) : Inv (s_setva σ k x) := by
  obtain ⟨h1, h2, h3, h4, h5, h6, h7, h8, h9, h10, h11⟩ := hi
  refine ⟨h1, h2, h3, h4, fun j => ?_, fun j hj => ?_, h7, h8, h9, h10, h11⟩
  · show 0 ≤ va_up (s_va σ) k x j ∧ va_up (s_va σ) k x j < 100
    unfold va_up
    split
    · exact hx
    · exact h5 j
  · show va_up (s_va σ) k x j = 0
    rw [up_n (by omega)]
    exact h6 j hj
theorem inv_ex1 {σ : SG} (hi : Inv σ) {k : Nat} (hk : k < 4) : Inv (s_setex σ k 1) := by
  obtain ⟨h1, h2, h3, h4, h5, h6, h7, h8, h9, h10, h11⟩ := hi
  have hx : ∀ p, va_up (s_ex σ) k 1 p = 0 → s_ex σ p = 0 := by
    intro p hp
    by_cases q : p = k
    · rw [q, up_s] at hp; cases hp
    · rw [up_n q] at hp; exact hp
  refine ⟨h1, h2, h3, h4, h5, h6, z_up h7 (Or.inr rfl), fun j hj => ?_, h9, fun p v hp hv he0 => h10 p v hp hv (hx p he0), fun p g hp hg he0 => h11 p g hp hg (hx p he0)⟩
  show va_up (s_ex σ) k 1 j = 0
  rw [up_n (by omega)]
  exact h8 j hj
theorem inv_ex0 {σ : SG} (hi : Inv σ) {k : Nat} (hk : k < 4) (hf : ∀ v, v < 16 → s_fr σ (16 * k + v) = -1) (hb : ∀ g, g < 4 → s_bg σ (4 * k + g) = 0) : Inv (s_setex σ k 0) := by
  obtain ⟨h1, h2, h3, h4, h5, h6, h7, h8, h9, h10, h11⟩ := hi
  refine ⟨h1, h2, h3, h4, h5, h6, z_up h7 (Or.inl rfl), fun j hj => ?_, h9, fun p v hp hv he0 => ?_, fun p g hp hg he0 => ?_⟩
  · show va_up (s_ex σ) k 0 j = 0
    rw [up_n (by omega)]
    exact h8 j hj
  · by_cases q : p = k
    · rw [q]; exact hf v hv
    · have he1 : va_up (s_ex σ) k 0 p = 0 := he0
      rw [up_n q] at he1
      exact h10 p v hp hv he1
  · by_cases q : p = k
    · rw [q]; exact hb g hg
    · have he1 : va_up (s_ex σ) k 0 p = 0 := he0
      rw [up_n q] at he1
      exact h11 p g hp hg he1
theorem inv_ea {σ : SG} (hi : Inv σ) {x : Int} (hx : x = 0 ∨ x = 1) : Inv (s_setea σ x) := by
  obtain ⟨h1, h2, h3, h4, h5, h6, h7, h8, h9, h10, h11⟩ := hi
  exact ⟨h1, h2, h3, h4, h5, h6, h7, h8, hx, h10, h11⟩
theorem inv_co {σ : SG} (hi : Inv σ) (n : Int) : Inv (s_addco σ n) := hi
theorem inv_fa {σ : SG} (hi : Inv σ) (n : Int) : Inv (s_addfa σ n) := hi
theorem inv_te {σ : SG} (hi : Inv σ) (n : Int) : Inv (s_addte σ n) := hi
theorem inv_lo {σ : SG} (hi : Inv σ) (n : Int) : Inv (s_addlo σ n) := hi
theorem ex_of {σ : SG} {p : Int} (h : hasP σ p = true) : 0 ≤ p ∧ p < 4 ∧ s_ex σ p.toNat = 1 := by unfold hasP at h; exact of_decide_eq_true h
theorem ex_pg {σ : SG} {p v : Int} (h : hasPg σ p v = true) : (0 ≤ p ∧ p < 4 ∧ s_ex σ p.toNat = 1) ∧ 0 ≤ v ∧ v < 16 := by
  unfold hasPg at h
  rw [Bool.and_eq_true, decide_eq_true_eq] at h
  exact ⟨ex_of h.1, h.2⟩
theorem ex_gr {σ : SG} {p g : Int} (h : hasGr σ p g = true) : (0 ≤ p ∧ p < 4 ∧ s_ex σ p.toNat = 1) ∧ 0 ≤ g ∧ g < 4 := by
  unfold hasGr at h
  rw [Bool.and_eq_true, decide_eq_true_eq] at h
  exact ⟨ex_of h.1, h.2⟩
theorem fo_in {σ : SG} {p v : Int} (hp : 0 ≤ p ∧ p < 4) (hv : 0 ≤ v ∧ v < 16) : fo σ p v = s_fr σ (16 * p + v).toNat := by unfold fo; rw [if_pos (by omega)]
/-- one page lets its frame go -/
def lg (σ : SG) (p v : Int) : Int := if fo σ p v = -1 then 0 else if uses (s_fr σ) (fo σ p v) = 1 then 1 else 0
def s_torn (σ : SG) (p g : Int) : SG := s_addte (s_setbg σ (4 * p + g).toNat 0) 1
def s_tsf (σ : SG) (p v : Int) : SG := if lsf σ = -1 then σ else s_setfr σ (16 * p + v).toNat (lsf σ)
def s_cop (σ : SG) (p v : Int) : SG := s_addco (s_tsf (if big σ p (v.tdiv 4) = true then s_torn σ p (v.tdiv 4) else σ) p v) 1
/-- a whole group comes in, its first j pages -/
def s_wh (σ : SG) (p g r : Int) : Nat → SG
  | 0 => σ
  | j + 1 => s_setva (s_setfr (s_wh σ p g r j) (16 * p + (4 * g + j)).toNat (4 * r + j)) (4 * r + j).toNat 0
def s_who (σ : SG) (p g r : Int) : SG := s_setbg (s_wh σ p g r 4) (4 * p + g).toNat 1
def s_bri (σ : SG) (p v : Int) : SG := s_addfa (if s_ea σ = 1 ∧ lfr σ ≠ -1 ∧ pf σ p (v.tdiv 4) = 0 then s_who σ p (v.tdiv 4) (lfr σ) else s_tsf σ p v) 1
def s_wri1 (σ : SG) (p v : Int) : SG := if oc σ p v = 1 then s_bri σ p v else if oc σ p v = 0 then σ else s_cop σ p v
def s_wri (σ : SG) (p v x : Int) : SG := if fo (s_wri1 σ p v) p v = -1 then s_wri1 σ p v else s_setva (s_wri1 σ p v) (fo (s_wri1 σ p v) p v).toNat x
theorem tsf_ex (σ : SG) (p v : Int) : s_ex (s_tsf σ p v) = s_ex σ := by unfold s_tsf; split <;> rfl
theorem wh_ex (σ : SG) (p g r : Int) : ∀ j, s_ex (s_wh σ p g r j) = s_ex σ
  | 0 => rfl
  | j + 1 => wh_ex σ p g r j
theorem wh_fr (σ : SG) (p g r : Int) {k : Nat} : ∀ {j : Nat}, (∀ i : Nat, i < j → k ≠ (16 * p + (4 * g + i)).toNat) → s_fr (s_wh σ p g r j) k = s_fr σ k
  | 0, _ => rfl
  | j + 1, h => by
    show va_up (s_fr (s_wh σ p g r j)) _ _ k = _
    rw [up_n (h j (by omega))]
    exact wh_fr σ p g r (fun i hi => h i (by omega))
theorem inv_tsf {σ : SG} (hi : Inv σ) {p v : Int} (hp : 0 ≤ p ∧ p < 4 ∧ s_ex σ p.toNat = 1) (hv : 0 ≤ v ∧ v < 16) : Inv (s_tsf σ p v) := by
  unfold s_tsf
  split
  · exact hi
  · refine inv_fr hi (by omega) (by have := lsf_rng σ; omega) (Or.inr ?_)
    rw [show (16 * p + v).toNat / 16 = p.toNat by omega]
    exact hp.2.2
theorem inv_torn {σ : SG} (hi : Inv σ) {p g : Int} (hp : 0 ≤ p ∧ p < 4) (hg : 0 ≤ g ∧ g < 4) : Inv (s_torn σ p g) := inv_te (inv_bg hi (by omega) (Or.inl rfl) (Or.inl rfl)) 1
theorem inv_cop {σ : SG} (hi : Inv σ) {p v : Int} (hp : 0 ≤ p ∧ p < 4 ∧ s_ex σ p.toNat = 1) (hv : 0 ≤ v ∧ v < 16) : Inv (s_cop σ p v) := by
  have d9 := Int.tdiv_eq_ediv_of_nonneg (a := v) (b := 4) (by omega)
  unfold s_cop
  refine inv_co (inv_tsf ?_ ?_ hv) 1
  · split
    · exact inv_torn hi (by omega) (by omega)
    · exact hi
  · split
    · exact hp
    · exact hp
theorem inv_wh {σ : SG} (hi : Inv σ) {p g r : Int} (hp : 0 ≤ p ∧ p < 4 ∧ s_ex σ p.toNat = 1) (hg : 0 ≤ g ∧ g < 4) (hr : 0 ≤ r ∧ r < 8) : ∀ j : Nat, j ≤ 4 → Inv (s_wh σ p g r j)
  | 0, _ => hi
  | j + 1, h => by
    refine inv_va (inv_fr (inv_wh hi hp hg hr j (by omega)) (by omega) (by omega) (Or.inr ?_)) (by omega) (by omega)
    rw [wh_ex, show (16 * p + (4 * g + (j : Int))).toNat / 16 = p.toNat by omega]
    exact hp.2.2
theorem inv_who {σ : SG} (hi : Inv σ) {p g r : Int} (hp : 0 ≤ p ∧ p < 4 ∧ s_ex σ p.toNat = 1) (hg : 0 ≤ g ∧ g < 4) (hr : 0 ≤ r ∧ r < 8) : Inv (s_who σ p g r) := by
  refine inv_bg (inv_wh hi hp hg hr 4 (by omega)) (by omega) (Or.inr rfl) (Or.inr ?_)
  rw [wh_ex, show (4 * p + g).toNat / 4 = p.toNat by omega]
  exact hp.2.2
theorem inv_bri {σ : SG} (hi : Inv σ) {p v : Int} (hp : 0 ≤ p ∧ p < 4 ∧ s_ex σ p.toNat = 1) (hv : 0 ≤ v ∧ v < 16) : Inv (s_bri σ p v) := by
  have d9 := Int.tdiv_eq_ediv_of_nonneg (a := v) (b := 4) (by omega)
  have h1 := lfr_rng σ
  unfold s_bri
  refine inv_fa ?_ 1
  split
  · exact inv_who hi hp (by omega) (by omega)
  · exact inv_tsf hi hp hv
theorem oc_pg {σ : SG} {p v : Int} (h : oc σ p v ≠ -1) : hasPg σ p v = true := by
  unfold oc at h
  by_cases q : hasPg σ p v = true
  · exact q
  · rw [if_neg q] at h; exact absurd rfl h
theorem inv_wri1 {σ : SG} (hi : Inv σ) {p v : Int} (h : oc σ p v ≠ -1) : Inv (s_wri1 σ p v) := by
  obtain ⟨hp, hv⟩ := ex_pg (oc_pg h)
  unfold s_wri1
  split
  · exact inv_bri hi hp hv
  · split
    · exact hi
    · exact inv_cop hi hp hv
theorem inv_wri {σ : SG} (hi : Inv σ) {p v x : Int} (h : oc σ p v ≠ -1) (hx : 0 ≤ x ∧ x < 100) : Inv (s_wri σ p v x) := by
  have h1 := inv_wri1 hi h
  have h2 := fo_rng h1 p v
  unfold s_wri
  split
  · exact h1
  · exact inv_va h1 (by omega) hx
end CH
