/-! THE WORLD: the class's object with its story, its states, its history, its slots; the reference's object; the answer's array -/
section WO
abbrev KT : Type := (Nat → Int) × Int × (Nat → SG) × Int × Int × (Nat → Int)
abbrev k_sg (κ : KT) : Nat → Int := κ.1
abbrev k_ln (κ : KT) : Int := κ.2.1
abbrev k_ms (κ : KT) : Nat → SG := κ.2.2.1
abbrev k_nx (κ : KT) : Int := κ.2.2.2.1
abbrev k_sz (κ : KT) : Int := κ.2.2.2.2.1
abbrev k_fl (κ : KT) : Nat → Int := κ.2.2.2.2.2
def k_setms (κ : KT) (i : Nat) (σ : SG) : KT := (κ.1, κ.2.1, va_up (k_ms κ) i σ, κ.2.2.2)
def k_setsg (κ : KT) (f : Nat → Int) : KT := (f, κ.2)
def k_setln (κ : KT) (z : Int) : KT := (κ.1, z, κ.2.2)
def k_setnx (κ : KT) (z : Int) : KT := (κ.1, κ.2.1, κ.2.2.1, z, κ.2.2.2.2)
def k_setsz (κ : KT) (z : Int) : KT := (κ.1, κ.2.1, κ.2.2.1, κ.2.2.2.1, z, κ.2.2.2.2.2)
def k_setfl (κ : KT) (f : Nat → Int) : KT := (κ.1, κ.2.1, κ.2.2.1, κ.2.2.2.1, κ.2.2.2.2.1, f)
def KInv (κ : KT) : Prop := (∀ k, 0 ≤ k_sg κ k ∧ k_sg κ k < 256) ∧ (0 ≤ k_ln κ ∧ k_ln κ ≤ 100) ∧ (∀ i, Inv (k_ms κ i)) ∧ (0 ≤ k_nx κ ∧ k_nx κ < 14) ∧ (0 ≤ k_sz κ ∧ k_sz κ ≤ 14) ∧ (∀ k, k_fl κ k = 0 ∨ k_fl κ k = 1)
/-- the law's three arrays: its numbers, the pages of its frames as bits, the values of its frames -/
abbrev DT : Type := (Nat → Int) × (Nat → Int) × (Nat → Int)
/-- where a state lies -/
def adr (i : Nat) : Nat := if i < 2 then 3 + 4 * i else if i < 16 then 5 + 4 * i else 6 + 4 * i
def whm (k : Nat) : Option Nat := if 3 ≤ k ∧ k < 11 then some ((k - 3) / 4) else if 13 ≤ k ∧ k < 69 then some ((k - 5) / 4) else if 70 ≤ k ∧ k < 78 then some ((k - 6) / 4) else none
def mcell (a j : Nat) (m : MSm) : MC := if j = a then cObj 1 (memL a m) else if j = a + 1 then cArr 0 64 m.1 else if j = a + 2 then cArr 0 32 m.2.1 else cArr 0 32 m.2.2.1
abbrev ringF : Nat → Option Nat := fun j => if j < 14 then some (13 + 4 * j) else none
abbrev slotF : Nat → Option Nat := fun j => if j < 2 then some (70 + 4 * j) else none
abbrev objX : List MV := [vR 1, vR 3, vR 7, vR 11, vR 69, vR 78]
def oth (κ : KT) (δ : DT) (o : DT) (k : Nat) : MC :=
  if k = 0 then cObj 3 objX else if k = 1 then cObj 2 [vR 2, vI (k_ln κ)] else if k = 2 then cArr 1 100 (k_sg κ) else if k = 11 then cObj 0 [vR 12, vI (k_nx κ), vI (k_sz κ)] else if k = 12 then cRef 14 ringF else if k = 69 then cRef 2 slotF else if k = 78 then cArr 2 2 (k_fl κ) else
  if k = 79 then cArr 0 7 δ.1 else if k = 80 then cArr 3 32 δ.2.1 else if k = 81 then cArr 0 32 δ.2.2 else if k = 82 then cArr 0 7 o.1 else if k = 83 then cArr 3 32 o.2.1 else if k = 84 then cArr 0 32 o.2.2 else cArr 3 1 (fun _ => 0)
def cell (κ : KT) (δ : DT) (o : DT) (k : Nat) : MC := match whm k with
  | some i => mcell (adr i) k (mem (k_ms κ i))
  | none => oth κ δ o k
def cW (κ : KT) (δ : DT) (o : DT) : List MC := (List.range 85).map (cell κ δ o)
theorem c_len {κ : KT} {δ : DT} {o : DT} : (cW κ δ o).length = 85 := by simp [cW]
theorem c_get {κ : KT} {δ : DT} {o : DT} {k : Nat} (h : k < 85) : (cW κ δ o)[k]? = some (cell κ δ o k) := by
  unfold cW
  rw [List.getElem?_map, List.getElem?_range h]
  rfl
theorem c_non {κ : KT} {δ : DT} {o : DT} {k : Nat} (h : 85 ≤ k) : (cW κ δ o)[k]? = none := List.getElem?_eq_none (by rw [c_len]; exact h)
theorem c_ext {κ : KT} {δ : DT} {o : DT} {w : List MC} (hl : w.length = 85) (h : ∀ k, k < 85 → w[k]? = some (cell κ δ o k)) : w = cW κ δ o := by
  apply List.ext_getElem?
  intro k
  by_cases q : k < 85
  · rw [h k q, c_get q]
  · rw [c_non (by omega), List.getElem?_eq_none (by omega)]
theorem c_upd {κ κ' : KT} {δ δ' : DT} {o o' : DT} {j : Nat} {c : MC} (hj : j < 85) (h1 : cell κ' δ' o' j = c) (h2 : ∀ k, k ≠ j → cell κ' δ' o' k = cell κ δ o k) : (cW κ δ o).set j c = cW κ' δ' o' := by
  refine c_ext (by rw [List.length_set, c_len]) (fun k hk => ?_)
  by_cases q : j = k
  · subst q
    rw [List.getElem?_set_self (by rw [c_len]; exact hj), h1]
  · rw [List.getElem?_set_ne q, c_get hk, h2 k (fun e => q e.symm)]
theorem adr_rng {i : Nat} (h : i < 18) : 3 ≤ adr i ∧ adr i + 3 < 78 := by unfold adr; (repeat' split) <;> omega
theorem adr_dis {i j : Nat} (h : i ≠ j) (hi : i < 18) (hj : j < 18) : adr i + 3 < adr j ∨ adr j + 3 < adr i := by unfold adr; (repeat' split) <;> omega
theorem whm_adr {i d : Nat} (hi : i < 18) (hd : d < 4) : whm (adr i + d) = some i := by
  unfold whm adr
  by_cases a : i < 2
  · rw [if_pos a, if_pos (by omega), show (3 + 4 * i + d - 3) / 4 = i by omega]
  · rw [if_neg a]
    by_cases b : i < 16
    · rw [if_pos b, if_neg (by omega), if_pos (by omega), show (5 + 4 * i + d - 5) / 4 = i by omega]
    · rw [if_neg b, if_neg (by omega), if_neg (by omega), if_pos (by omega), show (6 + 4 * i + d - 6) / 4 = i by omega]
theorem whm_of {k i : Nat} (h : whm k = some i) : i < 18 ∧ adr i ≤ k ∧ k < adr i + 4 := by
  unfold whm at h
  unfold adr
  split at h
  · obtain rfl := Option.some.inj h
    rw [if_pos (by omega)]
    omega
  · split at h
    · obtain rfl := Option.some.inj h
      rw [if_neg (by omega), if_pos (by omega)]
      omega
    · split at h
      · obtain rfl := Option.some.inj h
        rw [if_neg (by omega), if_neg (by omega)]
        omega
      · cases h
theorem cell_m {κ : KT} {δ : DT} {o : DT} {i d : Nat} (hi : i < 18) (hd : d < 4) : cell κ δ o (adr i + d) = mcell (adr i) (adr i + d) (mem (k_ms κ i)) := by
  unfold cell
  rw [whm_adr hi hd]
theorem c_rd {κ : KT} {δ : DT} {o : DT} {i : Nat} (hi : i < 18) : rdM (cW κ δ o) (adr i) (mem (k_ms κ i)) := by
  have h := adr_rng hi
  refine ⟨?_, ?_, ?_, ?_⟩
  · rw [c_get (by omega)]
    have := cell_m (κ := κ) (δ := δ) (o := o) hi (d := 0) (by omega)
    rw [Nat.add_zero] at this
    rw [this]
    simp [mcell]
  · rw [c_get (by omega), cell_m hi (by omega)]
    simp [mcell]
  · rw [c_get (by omega), cell_m hi (by omega)]
    simp [mcell]
  · rw [c_get (by omega), cell_m hi (by omega)]
    simp [mcell]
theorem c_ok {κ : KT} {δ : DT} {o : DT} {i : Nat} (hi : i < 18) : okM (cW κ δ o) (adr i) := by
  have h := adr_rng hi
  unfold okM
  rw [c_len]
  omega
/-- a state is set -/
theorem c_mem {κ : KT} {δ : DT} {o : DT} {i : Nat} {σ : SG} (hi : i < 18) : setM (cW κ δ o) (adr i) (mem σ) = cW (k_setms κ i σ) δ o := by
  have h := adr_rng hi
  have e : k_ms (k_setms κ i σ) i = σ := up_s _ _ _
  have hr := c_rd (κ := k_setms κ i σ) (δ := δ) (o := o) hi
  rw [e] at hr
  refine (m_ext (c_ok hi) hr.1 hr.2.1 hr.2.2.1 hr.2.2.2 (fun k hk => ?_)).symm
  by_cases q : k < 85
  · rw [c_get q, c_get q]
    unfold cell
    cases hm : whm k with
    | none => rfl
    | some j =>
      have hj := whm_of hm
      have : j ≠ i := by
        rintro rfl
        omega
      show some (mcell (adr j) k (mem (va_up (k_ms κ) i σ j))) = _
      rw [up_n this]
  · rw [c_non (by omega), c_non (by omega)]
theorem k_same (κ : KT) (i : Nat) : k_setms κ i (k_ms κ i) = κ := by
  unfold k_setms
  rw [up_id rfl]
theorem c_self {κ : KT} {δ : DT} {o : DT} {i : Nat} (hi : i < 18) : cW κ δ o = setM (cW κ δ o) (adr i) (mem (k_ms κ i)) := by
  rw [c_mem hi, k_same]
theorem cell_o {κ : KT} {δ : DT} {o : DT} {k : Nat} (h : whm k = none) : cell κ δ o k = oth κ δ o k := by unfold cell; rw [h]
theorem c_oth {κ : KT} {δ : DT} {o : DT} {k : Nat} (h : whm k = none) (hk : k < 85) : (cW κ δ o)[k]? = some (oth κ δ o k) := by rw [c_get hk, cell_o h]
theorem c_set {κ κ' : KT} {δ δ' : DT} {o o' : DT} {j : Nat} {c : MC} (hj : j < 85) (hw : whm j = none) (hm : k_ms κ' = k_ms κ) (h1 : oth κ' δ' o' j = c) (h2 : ∀ k, k ≠ j → oth κ' δ' o' k = oth κ δ o k) : (cW κ δ o).set j c = cW κ' δ' o' := by
  refine c_upd hj (by rw [cell_o hw, h1]) (fun k hk => ?_)
  unfold cell
  rw [hm]
  cases whm k with
  | none => exact h2 k hk
  | some i => rfl
theorem c_0 {κ : KT} {δ : DT} {o : DT} : (cW κ δ o)[0]? = some (cObj 3 objX) := c_oth (by decide) (by decide)
theorem c_1 {κ : KT} {δ : DT} {o : DT} : (cW κ δ o)[1]? = some (cObj 2 [vR 2, vI (k_ln κ)]) := c_oth (by decide) (by decide)
theorem c_2 {κ : KT} {δ : DT} {o : DT} : (cW κ δ o)[2]? = some (cArr 1 100 (k_sg κ)) := c_oth (by decide) (by decide)
theorem c_11 {κ : KT} {δ : DT} {o : DT} : (cW κ δ o)[11]? = some (cObj 0 [vR 12, vI (k_nx κ), vI (k_sz κ)]) := c_oth (by decide) (by decide)
theorem c_12 {κ : KT} {δ : DT} {o : DT} : (cW κ δ o)[12]? = some (cRef 14 ringF) := c_oth (by decide) (by decide)
theorem c_69 {κ : KT} {δ : DT} {o : DT} : (cW κ δ o)[69]? = some (cRef 2 slotF) := c_oth (by decide) (by decide)
theorem c_78 {κ : KT} {δ : DT} {o : DT} : (cW κ δ o)[78]? = some (cArr 2 2 (k_fl κ)) := c_oth (by decide) (by decide)
theorem c_79 {κ : KT} {δ : DT} {o : DT} : (cW κ δ o)[79]? = some (cArr 0 7 δ.1) := c_oth (by decide) (by decide)
theorem c_80 {κ : KT} {δ : DT} {o : DT} : (cW κ δ o)[80]? = some (cArr 3 32 δ.2.1) := c_oth (by decide) (by decide)
theorem c_81 {κ : KT} {δ : DT} {o : DT} : (cW κ δ o)[81]? = some (cArr 0 32 δ.2.2) := c_oth (by decide) (by decide)
theorem c_82 {κ : KT} {δ : DT} {o : DT} : (cW κ δ o)[82]? = some (cArr 0 7 o.1) := c_oth (by decide) (by decide)
theorem c_83 {κ : KT} {δ : DT} {o : DT} : (cW κ δ o)[83]? = some (cArr 3 32 o.2.1) := c_oth (by decide) (by decide)
theorem c_84 {κ : KT} {δ : DT} {o : DT} : (cW κ δ o)[84]? = some (cArr 0 32 o.2.2) := c_oth (by decide) (by decide)
theorem w_ln {κ : KT} {δ : DT} {o : DT} {z : Int} : (cW κ δ o).set 1 (cObj 2 [vR 2, vI z]) = cW (k_setln κ z) δ o := c_set (by decide) (by decide) rfl rfl (fun k hk => by unfold oth; simp only [if_neg hk]; rfl)
theorem w_sg {κ : KT} {δ : DT} {o : DT} {f : Nat → Int} : (cW κ δ o).set 2 (cArr 1 100 f) = cW (k_setsg κ f) δ o := c_set (by decide) (by decide) rfl rfl (fun k hk => by unfold oth; simp only [if_neg hk]; rfl)
theorem w_nx {κ : KT} {δ : DT} {o : DT} {z : Int} : (cW κ δ o).set 11 (cObj 0 [vR 12, vI z, vI (k_sz κ)]) = cW (k_setnx κ z) δ o := c_set (by decide) (by decide) rfl rfl (fun k hk => by unfold oth; simp only [if_neg hk]; rfl)
theorem w_sz {κ : KT} {δ : DT} {o : DT} {z : Int} : (cW κ δ o).set 11 (cObj 0 [vR 12, vI (k_nx κ), vI z]) = cW (k_setsz κ z) δ o := c_set (by decide) (by decide) rfl rfl (fun k hk => by unfold oth; simp only [if_neg hk]; rfl)
theorem w_fl {κ : KT} {δ : DT} {o : DT} {f : Nat → Int} : (cW κ δ o).set 78 (cArr 2 2 f) = cW (k_setfl κ f) δ o := c_set (by decide) (by decide) rfl rfl (fun k hk => by unfold oth; simp only [if_neg hk]; rfl)
theorem w_q {κ : KT} {δ : DT} {o : DT} {f : Nat → Int} : (cW κ δ o).set 79 (cArr 0 7 f) = cW κ (f, δ.2) o := c_set (by decide) (by decide) rfl rfl (fun k hk => by unfold oth; simp only [if_neg hk])
theorem w_u {κ : KT} {δ : DT} {o : DT} {f : Nat → Int} : (cW κ δ o).set 80 (cArr 3 32 f) = cW κ (δ.1, f, δ.2.2) o := c_set (by decide) (by decide) rfl rfl (fun k hk => by unfold oth; simp only [if_neg hk])
theorem w_v {κ : KT} {δ : DT} {o : DT} {f : Nat → Int} : (cW κ δ o).set 81 (cArr 0 32 f) = cW κ (δ.1, δ.2.1, f) o := c_set (by decide) (by decide) rfl rfl (fun k hk => by unfold oth; simp only [if_neg hk])
theorem w_q2 {κ : KT} {δ : DT} {o : DT} {f : Nat → Int} : (cW κ δ o).set 82 (cArr 0 7 f) = cW κ δ (f, o.2) := c_set (by decide) (by decide) rfl rfl (fun k hk => by unfold oth; simp only [if_neg hk])
theorem w_u2 {κ : KT} {δ : DT} {o : DT} {f : Nat → Int} : (cW κ δ o).set 83 (cArr 3 32 f) = cW κ δ (o.1, f, o.2.2) := c_set (by decide) (by decide) rfl rfl (fun k hk => by unfold oth; simp only [if_neg hk])
theorem w_v2 {κ : KT} {δ : DT} {o : DT} {f : Nat → Int} : (cW κ δ o).set 84 (cArr 0 32 f) = cW κ δ (o.1, o.2.1, f) := c_set (by decide) (by decide) rfl rfl (fun k hk => by unfold oth; simp only [if_neg hk])
end WO
