/-! A SMALL MACHINE: values are whole numbers or places in a list of cells; what a body does from a place of its code on, whatever stands below. -/
section GW
abbrev MV : Type := Int ⊕ Int ⊕ Option Nat
abbrev vI (z : Int) : MV := .inl z
abbrev vL (z : Int) : MV := .inr (.inl z)
abbrev vR (a : Nat) : MV := .inr (.inr (some a))
abbrev vN : MV := .inr (.inr none)
def g_V (ad : Nat → Nat) : MV → Value
  | .inl z => .int (Int32.ofInt z)
  | .inr (.inl z) => .long (Int64.ofInt z)
  | .inr (.inr none) => .null
  | .inr (.inr (some a)) => .ref (ad a)
abbrev MC : Type := (Nat × Nat × (Nat → Int)) ⊕ (Nat × (Nat → Option Nat)) ⊕ (Nat × List MV)
abbrev cArr (t n : Nat) (f : Nat → Int) : MC := .inl (t, n, f)
abbrev cRef (n : Nat) (f : Nat → Option Nat) : MC := .inr (.inl (n, f))
abbrev cObj (c : Nat) (fs : List MV) : MC := .inr (.inr (c, fs))
def g_C (cA : Nat → ClassId) (ad : Nat → Nat) : MC → va_E
  | .inl (t, n, f) => .inl (cA t, n, if t = 3 then .inr (.inl fun j => Int64.ofInt (f j)) else .inl fun j => Int32.ofInt (f j))
  | .inr (.inl (n, f)) => .inl (cA 4, n, .inr (.inr (.inr (.inr fun j => (f j).map ad))))
  | .inr (.inr (c, fs)) => .inr (c, fs.map (g_V ad))
def g_W (cA : Nat → ClassId) (ad : Nat → Nat) (w : List MC) : va_W := w.mapIdx fun k c => (ad k, g_C cA ad c)
theorem g_W_at {cA : Nat → ClassId} {ad : Nat → Nat} {w : List MC} {k : Nat} {c : MC} (h : w[k]? = some c) : (g_W cA ad w)[k]? = some (ad k, g_C cA ad c) := by
  simp [g_W, List.getElem?_mapIdx, h]
theorem g_W_of {cA : Nat → ClassId} {ad : Nat → Nat} {w : List MC} {k : Nat} {q : Nat × va_E} (h : (g_W cA ad w)[k]? = some q) : ∃ c, w[k]? = some c ∧ q = (ad k, g_C cA ad c) := by
  simp only [g_W, List.getElem?_mapIdx] at h
  cases hc : w[k]? with
  | none => simp [hc] at h
  | some c => simp [hc] at h; exact ⟨c, rfl, h.symm⟩
theorem g_W_set {cA : Nat → ClassId} {ad : Nat → Nat} (w : List MC) (k : Nat) (c : MC) : g_W cA ad (w.set k c) = (g_W cA ad w).set k (ad k, g_C cA ad c) := by
  apply List.ext_getElem?
  intro j
  simp only [g_W, List.getElem?_mapIdx, List.getElem?_set, List.length_mapIdx]
  by_cases hj : k = j
  · subst hj
    by_cases hl : k < w.length <;> simp [hl]
  · simp [hj]
theorem g_W_app {cA : Nat → ClassId} {ad : Nat → Nat} (w : List MC) (c : MC) : g_W cA ad (w ++ [c]) = g_W cA ad w ++ [(ad w.length, g_C cA ad c)] := by
  simp [g_W, List.mapIdx_append]
/-- the locals, by their places -/
def g_L (ad : Nat → Nat) : Nat → List (Option MV) → List (Nat × Value)
  | _, [] => []
  | i, none :: l => g_L ad (i + 1) l
  | i, some v :: l => (i, g_V ad v) :: g_L ad (i + 1) l
theorem g_L_mem {ad : Nat → Nat} {q : Nat × Value} : ∀ {l : List (Option MV)} {i : Nat}, q ∈ g_L ad i l ↔ ∃ (j : Nat) (v : MV), l[j]? = some (some v) ∧ q = (i + j, g_V ad v) := by
  intro l
  induction l with
  | nil => intro i; simp [g_L]
  | cons x l ih =>
    intro i
    cases x with
    | none =>
      rw [g_L, ih]
      constructor
      · rintro ⟨j, v, h1, h2⟩
        exact ⟨j + 1, v, by simpa using h1, by rw [h2]; congr 1; omega⟩
      · rintro ⟨j, v, h1, h2⟩
        cases j with
        | zero => simp at h1
        | succ j => exact ⟨j, v, by simpa using h1, by rw [h2]; congr 1; omega⟩
    | some y =>
      rw [g_L, List.mem_cons, ih]
      constructor
      · rintro (h | ⟨j, v, h1, h2⟩)
        · exact ⟨0, y, rfl, by rw [h]; rfl⟩
        · exact ⟨j + 1, v, by simpa using h1, by rw [h2]; congr 1; omega⟩
      · rintro ⟨j, v, h1, h2⟩
        cases j with
        | zero =>
          simp only [List.getElem?_cons_zero, Option.some.injEq] at h1
          exact Or.inl (by rw [h2, h1]; rfl)
        | succ j => exact Or.inr ⟨j, v, by simpa using h1, by rw [h2]; congr 1; omega⟩
theorem g_at {ls : Array Slot} {n : Nat} {ad : Nat → Nat} {L : List (Option MV)} (h : lv_has ls n (g_L ad 0 L)) {k : Nat} {v : MV} (hk : L[k]? = some (some v)) : ls[k]? = some (.val (g_V ad v)) :=
  h.2.2 (k, g_V ad v) (g_L_mem.mpr ⟨k, v, hk, by rw [Nat.zero_add]⟩)
theorem g_keep {ls : Array Slot} {n : Nat} {l l' : List (Nat × Value)} (h : lv_has ls n l) (hm : ∀ q ∈ l', q ∈ l) : lv_has ls n l' := ⟨h.1, h.2.1, fun q hq => h.2.2 q (hm q hq)⟩
/-- no long lies just ahead of a place -/
def g_nl (L : List (Option MV)) : Nat → Bool
  | 0 => true
  | i + 1 => match L[i]? with
    | some (some (.inr (.inl _))) => false
    | _ => true
theorem g_cat {ad : Nat → Nat} {v : MV} (h : ∀ z, v ≠ .inr (.inl z)) : (g_V ad v).category = 1 := by
  rcases v with z | z | _ | a
  · rfl
  · exact absurd rfl (h z)
  · rfl
  · rfl
theorem g_nl_at {L : List (Option MV)} {j : Nat} {v : MV} (h : g_nl L (j + 1) = true) (hv : L[j]? = some (some v)) (z : Int) : v ≠ .inr (.inl z) := by
  intro e
  subst e
  simp [g_nl, hv] at h
theorem g_set1 {ad : Nat → Nat} {L : List (Option MV)} {i : Nat} (x : MV) (hk : g_nl L i = true) : ∀ q ∈ g_L ad 0 (L.set i (some x)), q ∈ (i, g_V ad x) :: (g_L ad 0 L).filter (fun q => !(q.1 == i) && !(q.1 + 1 == i && q.2.category == 2)) := by
  intro q hq
  obtain ⟨j, v, h1, h2⟩ := g_L_mem.mp hq
  rw [Nat.zero_add] at h2
  by_cases hj : i = j
  · subst hj
    by_cases hl : i < L.length
    · rw [List.getElem?_set_self hl] at h1
      simp only [Option.some.injEq] at h1
      rw [h2, h1]
      exact List.mem_cons_self
    · rw [List.getElem?_eq_none (by simp; omega)] at h1
      cases h1
  · rw [List.getElem?_set_ne hj] at h1
    refine List.mem_cons_of_mem _ (List.mem_filter.mpr ⟨g_L_mem.mpr ⟨j, v, h1, by rw [h2, Nat.zero_add]⟩, ?_⟩)
    rw [h2]
    by_cases h3 : j + 1 = i
    · subst h3
      have hc := g_cat (ad := ad) (fun z => g_nl_at hk h1 z)
      simp [hc]
    · simp [h3, Ne.symm hj]
theorem g_set2 {ad : Nat → Nat} {L : List (Option MV)} {i : Nat} (x : MV) (hk : g_nl L i = true) : ∀ q ∈ g_L ad 0 ((L.set i (some x)).set (i + 1) none), q ∈ (i, g_V ad x) :: (g_L ad 0 L).filter (fun q => !(q.1 == i) && (!(q.1 == i + 1) && !(q.1 + 1 == i && q.2.category == 2))) := by
  intro q hq
  obtain ⟨j, v, h1, h2⟩ := g_L_mem.mp hq
  rw [Nat.zero_add] at h2
  by_cases hj1 : i + 1 = j
  · subst hj1
    by_cases hl : i + 1 < (L.set i (some x)).length
    · rw [List.getElem?_set_self hl] at h1
      cases h1
    · rw [List.getElem?_eq_none (by simp at hl ⊢; omega)] at h1
      cases h1
  · rw [List.getElem?_set_ne hj1] at h1
    by_cases hj : i = j
    · subst hj
      by_cases hl : i < L.length
      · rw [List.getElem?_set_self hl] at h1
        simp only [Option.some.injEq] at h1
        rw [h2, h1]
        exact List.mem_cons_self
      · rw [List.getElem?_eq_none (by simp; omega)] at h1
        cases h1
    · rw [List.getElem?_set_ne hj] at h1
      refine List.mem_cons_of_mem _ (List.mem_filter.mpr ⟨g_L_mem.mpr ⟨j, v, h1, by rw [h2, Nat.zero_add]⟩, ?_⟩)
      rw [h2]
      by_cases h3 : j + 1 = i
      · subst h3
        have hc := g_cat (ad := ad) (fun z => g_nl_at hk h1 z)
        simp [hc]
        omega
      · simp [h3, Ne.symm hj, Ne.symm hj1]
theorem g_drop {ad : Nat → Nat} {L : List (Option MV)} (i : Nat) : ∀ q ∈ g_L ad 0 (L.set i none), q ∈ g_L ad 0 L := by
  intro q hq
  obtain ⟨j, v, h1, h2⟩ := g_L_mem.mp hq
  by_cases hj : i = j
  · subst hj
    by_cases hl : i < L.length
    · rw [List.getElem?_set_self hl] at h1
      cases h1
    · rw [List.getElem?_eq_none (by simp; omega)] at h1
      cases h1
  · rw [List.getElem?_set_ne hj] at h1
    exact g_L_mem.mpr ⟨j, v, h1, h2⟩
/-- the locals with which a method begins -/
def g_ent : List MV → List (Option MV)
  | [] => []
  | .inr (.inl z) :: vs => some (.inr (.inl z)) :: none :: g_ent vs
  | v :: vs => some v :: g_ent vs
def g_pad (n : Nat) (vs : List MV) : List (Option MV) := g_ent vs ++ List.replicate (n - (g_ent vs).length) none
theorem g_ent_mem {ad : Nat → Nat} : ∀ {vs : List MV} {i : Nat} {l : List (Option MV)} (q : Nat × Value), (∀ x ∈ l, x = none) → q ∈ g_L ad i (g_ent vs ++ l) → q ∈ lv_args i (vs.map (g_V ad)) := by
  intro vs
  induction vs with
  | nil =>
    intro i l q hn h
    obtain ⟨j, v, h1, -⟩ := g_L_mem.mp h
    have := hn _ (List.mem_of_getElem? h1)
    cases this
  | cons v vs ih =>
    intro i l q hn h
    rcases v with z | z | r
    · rw [g_ent, List.cons_append, g_L] at h
      · rw [List.map_cons, lv_args, if_neg (by simp [g_V, Value.category])]
        rcases List.mem_cons.mp h with h | h
        · rw [h]; exact List.mem_cons_self
        · exact List.mem_cons_of_mem _ (ih q hn h)
      · intro z h; cases h
    · rw [g_ent, List.cons_append, List.cons_append, g_L, g_L] at h
      rw [List.map_cons, lv_args, if_pos (by simp [g_V, Value.category])]
      rcases List.mem_cons.mp h with h | h
      · rw [h]; exact List.mem_cons_self
      · exact List.mem_cons_of_mem _ (ih q hn h)
    · rw [g_ent, List.cons_append, g_L] at h
      · rw [List.map_cons, lv_args, if_neg (by cases r <;> simp [g_V, Value.category])]
        rcases List.mem_cons.mp h with h | h
        · rw [h]; exact List.mem_cons_self
        · exact List.mem_cons_of_mem _ (ih q hn h)
      · intro z h; cases h
theorem g_ent_len {ad : Nat → Nat} : ∀ {vs : List MV}, (lg_sl (vs.map (g_V ad))).length = (g_ent vs).length := by
  intro vs
  induction vs with
  | nil => rfl
  | cons v vs ih =>
    have hc : ∀ (x : Value) (xs : List Value), (lg_sl (x :: xs)).length = (if x.category = 2 then 2 else 1) + (lg_sl xs).length := by
      intro x xs
      by_cases h : x.category = 2 <;> simp [lg_sl, h] <;> omega
    rw [List.map_cons, hc, ih]
    rcases v with z | z | _ | r <;> simp [g_V, g_ent, Value.category] <;> omega
theorem g_entry {ad : Nat → Nat} {vs : List MV} {n : Nat} (h : (g_ent vs).length ≤ n) : lv_has ((lg_sl (vs.map (g_V ad)) ++ List.replicate (n - (lg_sl (vs.map (g_V ad))).length) Slot.unset).toArray) n (g_L ad 0 (g_pad n vs)) := by
  have h1 := lv_entry (vs.map (g_V ad)) (n := n) (by rw [g_ent_len]; exact h)
  exact g_keep h1 (fun q hq => g_ent_mem q (fun x hx => List.eq_of_mem_replicate hx) hq)
/-! numbers -/
theorem g_ti {x : Int} (h : -2147483648 ≤ x ∧ x < 2147483648) : (Int32.ofInt x).toInt = x := Int32.toInt_ofInt_of_le (by omega) (by omega)
theorem g_tl {x : Int} (h : -9223372036854775808 ≤ x ∧ x < 9223372036854775808) : (Int64.ofInt x).toInt = x := Int64.toInt_ofInt_of_le (by omega) (by omega)
theorem g_lt {x y : Int} (hx : -2147483648 ≤ x ∧ x < 2147483648) (hy : -2147483648 ≤ y ∧ y < 2147483648) : Int32.ofInt x < Int32.ofInt y ↔ x < y := by
  rw [Int32.lt_iff_toInt_lt, g_ti hx, g_ti hy]
theorem g_le {x y : Int} (hx : -2147483648 ≤ x ∧ x < 2147483648) (hy : -2147483648 ≤ y ∧ y < 2147483648) : Int32.ofInt x ≤ Int32.ofInt y ↔ x ≤ y := by
  rw [Int32.le_iff_toInt_le, g_ti hx, g_ti hy]
theorem g_eq {x y : Int} (hx : -2147483648 ≤ x ∧ x < 2147483648) (hy : -2147483648 ≤ y ∧ y < 2147483648) : Int32.ofInt x = Int32.ofInt y ↔ x = y := by
  rw [← Int32.toInt_inj, g_ti hx, g_ti hy]
theorem g_eqL {x y : Int} (hx : -9223372036854775808 ≤ x ∧ x < 9223372036854775808) (hy : -9223372036854775808 ≤ y ∧ y < 9223372036854775808) : Int64.ofInt x = Int64.ofInt y ↔ x = y := by
  rw [← Int64.toInt_inj, g_tl hx, g_tl hy]
theorem g_ltL {x y : Int} (hx : -9223372036854775808 ≤ x ∧ x < 9223372036854775808) (hy : -9223372036854775808 ≤ y ∧ y < 9223372036854775808) : Int64.ofInt x < Int64.ofInt y ↔ x < y := by
  rw [Int64.lt_iff_toInt_lt, g_tl hx, g_tl hy]
theorem g_nc {x : Int} (h : -2147483648 ≤ x ∧ x < 2147483648) : (Int32.ofInt x).toNatClampNeg = x.toNat := Int32.toNatClampNeg_ofInt_of_le (by omega) (by omega)
theorem g_in {x : Int} {n : Nat} (h : 0 ≤ x ∧ x < n ∧ n < 2147483648) : vp_in (Int32.ofInt x) n := by
  rw [vp_in_iff, g_ti (by omega)]
  omega
theorem g_dv {x y : Int} (hx : -2147483648 ≤ x ∧ x < 2147483648) (hy : 0 < y ∧ y < 2147483648) : Int32.ofInt x / Int32.ofInt y = Int32.ofInt (x.tdiv y) :=
  (Int32.ofInt_tdiv (by rw [Int32.toInt_minValue]; omega) (by rw [Int32.toInt_maxValue]; omega) (by rw [Int32.toInt_minValue]; omega) (by rw [Int32.toInt_maxValue]; omega)).symm
theorem g_dvL {x y : Int} (hx : -9223372036854775808 ≤ x ∧ x < 9223372036854775808) (hy : 0 < y ∧ y < 9223372036854775808) : Int64.ofInt x / Int64.ofInt y = Int64.ofInt (x.tdiv y) :=
  (Int64.ofInt_tdiv (by rw [Int64.toInt_minValue]; omega) (by rw [Int64.toInt_maxValue]; omega) (by rw [Int64.toInt_minValue]; omega) (by rw [Int64.toInt_maxValue]; omega)).symm
theorem g_n0 {y : Int} (hy : 0 < y ∧ y < 2147483648) : ¬ Int32.ofInt y = 0 := by
  rw [show (0 : Int32) = Int32.ofInt 0 from rfl, g_eq (by omega) (by omega)]
  omega
theorem g_n0L {y : Int} (hy : 0 < y ∧ y < 9223372036854775808) : ¬ Int64.ofInt y = 0 := by
  rw [show (0 : Int64) = Int64.ofInt 0 from rfl, g_eqL (by omega) (by omega)]
  omega
theorem g_md {x y : Int} (hx : -2147483648 ≤ x ∧ x < 2147483648) (hy : 0 < y ∧ y < 2147483648) : Int32.ofInt x - Int32.ofInt x / Int32.ofInt y * Int32.ofInt y = Int32.ofInt (x.tmod y) := by
  rw [g_dv hx hy, ← Int32.ofInt_mul, ← Int32.ofInt_sub, Int.tmod_def, Int.mul_comm]
theorem g_mdL {x y : Int} (hx : -9223372036854775808 ≤ x ∧ x < 9223372036854775808) (hy : 0 < y ∧ y < 9223372036854775808) : Int64.ofInt x - Int64.ofInt x / Int64.ofInt y * Int64.ofInt y = Int64.ofInt (x.tmod y) := by
  rw [g_dvL hx hy, ← Int64.ofInt_mul, ← Int64.ofInt_sub, Int.tmod_def, Int.mul_comm]
end GW
