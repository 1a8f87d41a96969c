/-! ROWS OF THE CELLS: fields, arrays, what is made; the ends of a method -/
section GCE
variable {M : MT} {scr : Option (Nat × (Nat → Int))} {al alE : Bool} {pc : Nat} {L : List (Option MV)} {S : List MV} {w : List MC} {bc bs : Nat} {Q : (Option MV) ⊕ String → List MC → Prop}
/-- the field k of the class number ci, named by the entry idx of own's pool -/
def g_F (own : String) (ci k idx : Nat) : Prop := ∃ (C : String) (T : u_T) (N : Nat), vwCl[ci]? = some (C, T, N) ∧ (∀ wd ∈ u_ws C T N, wd ∈ g_WS) ∧ k < N ∧ Cond.fieldLink own idx (T k).1 (T k).2.1 (T k).2.2.1 ∈ g_WS
/-- its type and whether it is final -/
def g_Ft (own : String) (ci k idx : Nat) (fin : Bool) (ty : FieldType) : Prop := ∃ (C : String) (T : u_T) (N : Nat) (ty0 : Nat → FieldType), vwCl[ci]? = some (C, T, N) ∧ (∀ wd ∈ u_ws C T N, wd ∈ g_WS) ∧ k < N ∧ Cond.fieldLink own idx (T k).1 (T k).2.1 (T k).2.2.1 ∈ g_WS ∧
  (∀ j, j < N → parseFieldDescriptor (T j).2.2.1 = some (ty0 j)) ∧ (∀ a, a < N → ∀ b, b < N → a ≠ b → (T a).2.1 ≠ (T b).2.1) ∧ (T k).2.2.2 = fin ∧ ty0 k = ty ∧ (fin = true → (T k).1 = own)
theorem g_getf {ci k idx a : Nat} {fs : List MV} {v : MV} (hf : g_F (mY M).cls ci k idx) (hd : decode (mC M) pc = .ok (.getfield idx, 3)) (hw : w[a]? = some (cObj ci fs)) (hv : fs[k]? = some v) (kk : G M scr al alE (pc + 3) L (v :: S) w bc bs Q) : G M scr al alE pc L (vR a :: S) w bc bs Q := by
  intro p l e R s m args below meth c D cA ad base A H locs cells slots mc ms ls fx dy hl
  obtain ⟨f1, f2, f3, f4, f5, f6, f7, f8, f9, f10, f11⟩ := id fx
  obtain ⟨d1, d2, d3, d4, d5, d6, d7⟩ := id dy
  obtain ⟨C, T, N, h1, h2, h3, h4⟩ := hf
  exact va_get (D := D) (ci := ci) (v := g_V ad v) f1 f3 f10 h2 f9 d2 d1 a (g_W_at hw) h1 k h3 (f10 _ h4) (fun _ h9 => h9) (by rw [List.getElem?_map, hv]; rfl) hd (kk p l e R s m args below meth c D cA ad base A H locs cells slots mc ms ls fx dy hl)
theorem G_dy.next {D : va_G} {cA : Nat → ClassId} {ad : Nat → Nat} {base : Nat} {A : Nat → Prop} {s : State} {H H1 : Heap} {locs locs1 : List Loc} {cells slots mc ms : Nat} {w' : List MC} (dy : G_dy al D cA ad base A s H locs cells slots mc ms w bc bs) (hlen : w'.length = w.length) (hpos : 0 < w.length) (hP : va_P D vwCl (g_W cA ad w') H1) (hD : va_D A (g_W cA ad w')) (hS : va_S A s.heap H1 locs1) (hz : H1.size ≤ s.heap.size + cells) :
    G_dy al D cA ad base A s H1 locs1 cells slots mc ms w' bc bs := by
  obtain ⟨d1, d2, d3, d4, ⟨d5, d6⟩, d7, d8⟩ := dy
  refine ⟨hP, d2, hD, hS, ⟨fun h => ?_, fun h => by rw [hlen]; exact d6 h⟩, d7, d8⟩
  obtain ⟨a1, a2, a3⟩ := d5 h
  have a4 := d6 h
  refine ⟨?_, by rw [hlen]; exact a2, a3⟩
  obtain ⟨x, hx⟩ : ∃ x, w'[w.length - 1]? = some x := by
    rw [← hlen]
    exact ⟨_, List.getElem?_eq_getElem (by omega)⟩
  have h2 := (hP _ _ (g_W_at (cA := cA) (ad := ad) hx)).lt
  rw [show ((ad (w.length - 1), g_C cA ad x) : Nat × va_E).1 = ad (w.length - 1) from rfl, a3 _ (by omega)] at h2
  omega
theorem g_pos {w : List MC} {a : Nat} {c : MC} (h : w[a]? = some c) : 0 < w.length := Nat.lt_of_le_of_lt (Nat.zero_le _) (List.getElem?_eq_some_iff.mp h).1
theorem g_put {ci k idx a : Nat} {fs : List MV} {v : MV} {fin : Bool} {ty : FieldType} (hf : g_Ft (mY M).cls ci k idx fin ty) (hd : decode (mC M) pc = .ok (.putfield idx, 3)) (hw : w[a]? = some (cObj ci fs)) (hk : k < fs.length) (hn : ∀ ad, narrow ty (g_V ad v) = g_V ad v) (hfit : ∀ ad, fits ty (g_V ad v) = true) (hfi : fin = true → (mY M).name = "<init>")
    (kk : G M scr al alE (pc + 3) L S (w.set a (cObj ci (fs.set k v))) bc bs Q) : G M scr al alE pc L (v :: vR a :: S) w bc bs Q := by
  intro p l e R s m args below meth c D cA ad base A H locs cells slots mc ms ls fx dy hl
  obtain ⟨f1, f2, f3, f4, f5, f6, f7, f8, f9, f10, f11⟩ := id fx
  obtain ⟨d1, d2, d3, d4, d5, d6, d7⟩ := id dy
  obtain ⟨C, T, N, ty0, h1, h2, h3, h4, h5, h6, h7, h8, h9⟩ := hf
  have hs : ((g_W cA ad w).set a (ad a, .inr (ci, (fs.map (g_V ad)).set k (g_V ad v)))) = g_W cA ad (w.set a (cObj ci (fs.set k v))) := by
    rw [g_W_set]
    simp [g_C, List.map_set]
  have fin9 : ∀ (H1 : Heap) (locs1 : List Loc), va_P D vwCl ((g_W cA ad w).set a (ad a, .inr (ci, (fs.map (g_V ad)).set k (g_V ad v)))) H1 → va_D A ((g_W cA ad w).set a (ad a, .inr (ci, (fs.map (g_V ad)).set k (g_V ad v)))) → va_S A s.heap H1 locs1 → W p l e R s m args below meth c H1 locs1 cells slots (vx_MQ below (G_Q alE D cA ad base A Q) (G_X D cA ad base A Q) args s mc ms A) (F0 m (pc + 3) ls (S.map (g_V ad))) := by
    intro H1 locs1 hP hD hS
    rw [hs] at hP hD
    intro T1 hT X
    have hz := X.heapSize
    rw [hT] at hz
    exact kk p l e R s m args below meth c D cA ad base A H1 locs1 cells slots mc ms ls fx (dy.next (List.length_set ..) (g_pos hw) hP hD hS hz) hl T1 hT X
  have hty : parseFieldDescriptor (T k).2.2.1 = some ty := by rw [h5 k h3, h8]
  cases fin with
  | false => exact va_put (D := D) (ci := ci) (v := g_V ad v) (ty := ty) f1 f3 f10 h2 ty0 h5 h6 f9 d2 d1 d3 d4 a (g_W_at hw) h1 k h3 (f10 _ h4) (fun _ h9 => h9) h7 hty (hn ad) (hfit ad) (by rw [List.length_map]; exact hk) hd fin9
  | true => exact va_putF (D := D) (ci := ci) (v := g_V ad v) (ty := ty) f1 f3 f10 h2 ty0 h5 h6 f9 d2 d1 d3 d4 a (g_W_at hw) h1 k h3 (f10 _ h4) (fun _ h9 => h9) h7 (by rw [f7]; exact hfi rfl) (h9 rfl) hty (hn ad) (hfit ad) (by rw [List.length_map]; exact hk) hd fin9
/-! arrays -/
theorem g_arr {cA : Nat → ClassId} {ad : Nat → Nat} {t n : Nat} {f : Nat → Int} (ht : t ≠ 3) : g_C cA ad (cArr t n f) = .inl (cA t, n, .inl fun j => Int32.ofInt (f j)) := by simp [g_C, ht]
theorem g_arrL {cA : Nat → ClassId} {ad : Nat → Nat} {n : Nat} {f : Nat → Int} : g_C cA ad (cArr 3 n f) = .inl (cA 3, n, .inr (.inl fun j => Int64.ofInt (f j))) := by simp [g_C]
theorem g_iald {a n : Nat} {f : Nat → Int} {i : Int} (hd : decode (mC M) pc = .ok (.iaload, 1)) (hw : w[a]? = some (cArr 0 n f)) (hi : 0 ≤ i ∧ i < n ∧ n < 2147483648) (kk : G M scr al alE (pc + 1) L (vI (f i.toNat) :: S) w bc bs Q) : G M scr al alE pc L (vI i :: vR a :: S) w bc bs Q := by
  intro p l e R s m args below meth c D cA ad base A H locs cells slots mc ms ls fx dy hl
  obtain ⟨f1, f2, f3, f4, f5, f6, f7, f8, f9, f10, f11⟩ := id fx
  obtain ⟨d1, d2, d3, d4, d5, d6, d7⟩ := id dy
  exact va_iald f1 f3 d2 d1 a 0 (by rw [g_W_at hw, g_arr (by decide)]) rfl (g_in hi) hd (g_top (by rw [g_nc (by omega)]; rfl) (kk p l e R s m args below meth c D cA ad base A H locs cells slots mc ms ls fx dy hl))
theorem g_cald {a n : Nat} {f : Nat → Int} {i : Int} (hd : decode (mC M) pc = .ok (.caload, 1)) (hw : w[a]? = some (cArr 1 n f)) (hi : 0 ≤ i ∧ i < n ∧ n < 2147483648) (kk : G M scr al alE (pc + 1) L (vI (f i.toNat) :: S) w bc bs Q) : G M scr al alE pc L (vI i :: vR a :: S) w bc bs Q := by
  intro p l e R s m args below meth c D cA ad base A H locs cells slots mc ms ls fx dy hl
  obtain ⟨f1, f2, f3, f4, f5, f6, f7, f8, f9, f10, f11⟩ := id fx
  obtain ⟨d1, d2, d3, d4, d5, d6, d7⟩ := id dy
  exact va_cald f1 f3 d2 d1 a 1 (by rw [g_W_at hw, g_arr (by decide)]) rfl (g_in hi) hd (g_top (by rw [g_nc (by omega)]; rfl) (kk p l e R s m args below meth c D cA ad base A H locs cells slots mc ms ls fx dy hl))
theorem g_zald {a n : Nat} {f : Nat → Int} {i : Int} (hd : decode (mC M) pc = .ok (.baload, 1)) (hw : w[a]? = some (cArr 2 n f)) (hi : 0 ≤ i ∧ i < n ∧ n < 2147483648) (kk : G M scr al alE (pc + 1) L (vI (f i.toNat) :: S) w bc bs Q) : G M scr al alE pc L (vI i :: vR a :: S) w bc bs Q := by
  intro p l e R s m args below meth c D cA ad base A H locs cells slots mc ms ls fx dy hl
  obtain ⟨f1, f2, f3, f4, f5, f6, f7, f8, f9, f10, f11⟩ := id fx
  obtain ⟨d1, d2, d3, d4, d5, d6, d7⟩ := id dy
  exact va_zald f1 f3 d2 d1 a 2 (by rw [g_W_at hw, g_arr (by decide)]) rfl (g_in hi) hd (g_top (by rw [g_nc (by omega)]; rfl) (kk p l e R s m args below meth c D cA ad base A H locs cells slots mc ms ls fx dy hl))
theorem g_lald {a n : Nat} {f : Nat → Int} {i : Int} (hd : decode (mC M) pc = .ok (.laload, 1)) (hw : w[a]? = some (cArr 3 n f)) (hi : 0 ≤ i ∧ i < n ∧ n < 2147483648) (kk : G M scr al alE (pc + 1) L (vL (f i.toNat) :: S) w bc bs Q) : G M scr al alE pc L (vI i :: vR a :: S) w bc bs Q := by
  intro p l e R s m args below meth c D cA ad base A H locs cells slots mc ms ls fx dy hl
  obtain ⟨f1, f2, f3, f4, f5, f6, f7, f8, f9, f10, f11⟩ := id fx
  obtain ⟨d1, d2, d3, d4, d5, d6, d7⟩ := id dy
  exact va_lald f1 f3 d2 d1 a 3 (by rw [g_W_at hw, g_arrL]) rfl (g_in hi) hd (g_top (by rw [g_nc (by omega)]; rfl) (kk p l e R s m args below meth c D cA ad base A H locs cells slots mc ms ls fx dy hl))
theorem g_aald {a n b : Nat} {f : Nat → Option Nat} {i : Int} (hd : decode (mC M) pc = .ok (.aaload, 1)) (hw : w[a]? = some (cRef n f)) (hi : 0 ≤ i ∧ i < n ∧ n < 2147483648) (hv : f i.toNat = some b) (kk : G M scr al alE (pc + 1) L (vR b :: S) w bc bs Q) : G M scr al alE pc L (vI i :: vR a :: S) w bc bs Q := by
  intro p l e R s m args below meth c D cA ad base A H locs cells slots mc ms ls fx dy hl
  obtain ⟨f1, f2, f3, f4, f5, f6, f7, f8, f9, f10, f11⟩ := id fx
  obtain ⟨d1, d2, d3, d4, d5, d6, d7⟩ := id dy
  exact va_aldq f1 f3 d2 d1 a 4 (g_W_at hw) rfl (g_in hi) hd (g_top (by rw [g_nc (by omega), hv]; rfl) (kk p l e R s m args below meth c D cA ad base A H locs cells slots mc ms ls fx dy hl))
theorem g_up32 (f : Nat → Int) (k : Nat) (x : Int) : upd (fun j => Int32.ofInt (f j)) k (Int32.ofInt x) = fun j => Int32.ofInt (va_up f k x j) := by
  funext j
  unfold upd va_up
  by_cases h : j = k <;> simp [h]
theorem g_up64 (f : Nat → Int) (k : Nat) (x : Int) : vp_updL (fun j => Int64.ofInt (f j)) k (Int64.ofInt x) = fun j => Int64.ofInt (va_up f k x j) := by
  funext j
  unfold vp_updL va_up
  by_cases h : j = k <;> simp [h]
section
variable {D : va_G} {cA : Nat → ClassId} {ad : Nat → Nat} {base : Nat} {A : Nat → Prop} {p : Program} {l : Launch} {e : Env} {R : Room} {s : State} {m : MethodId} {args : Array Value} {below : List Frame} {meth : Method} {c : Code} {H : Heap} {locs : List Loc} {cells slots mc ms : Nat} {ls : Array Slot}
/-- behind a store -/
theorem g_stored {w' : List MC} {pc' : Nat} (fx : G_fx M scr p l R s m args meth c ad A mc ms) (dy : G_dy al D cA ad base A s H locs cells slots mc ms w bc bs) (hl : lv_has ls (mL M) (g_L ad 0 L)) (hlen : w'.length = w.length) (hpos : 0 < w.length) (kk : G M scr al alE pc' L S w' bc bs Q) :
    ∀ (H1 : Heap) (locs1 : List Loc), va_P D vwCl (g_W cA ad w') H1 → va_D A (g_W cA ad w') → va_S A s.heap H1 locs1 → W p l e R s m args below meth c H1 locs1 cells slots (vx_MQ below (G_Q alE D cA ad base A Q) (G_X D cA ad base A Q) args s mc ms A) (F0 m pc' ls (S.map (g_V ad))) := by
  intro H1 locs1 hP hD hS T1 hT X
  have hz := X.heapSize
  rw [hT] at hz
  exact kk p l e R s m args below meth c D cA ad base A H1 locs1 cells slots mc ms ls fx (dy.next hlen hpos hP hD hS hz) hl T1 hT X
end
theorem g_iast {a n : Nat} {f : Nat → Int} {i x : Int} (hd : decode (mC M) pc = .ok (.iastore, 1)) (hw : w[a]? = some (cArr 0 n f)) (hi : 0 ≤ i ∧ i < n ∧ n < 2147483648) (kk : G M scr al alE (pc + 1) L S (w.set a (cArr 0 n (va_up f i.toNat x))) bc bs Q) : G M scr al alE pc L (vI x :: vI i :: vR a :: S) w bc bs Q := by
  intro p l e R s m args below meth c D cA ad base A H locs cells slots mc ms ls fx dy hl
  obtain ⟨f1, f2, f3, f4, f5, f6, f7, f8, f9, f10, f11⟩ := id fx
  obtain ⟨d1, d2, d3, d4, d5, d6, d7⟩ := id dy
  have h9 := g_stored (e := e) (below := below) (alE := alE) (Q := Q) fx dy hl (List.length_set ..) (g_pos hw) kk
  rw [g_W_set, g_arr (by decide)] at h9
  exact va_iast f1 f3 d2 d1 d3 d4 a 0 (by rw [g_W_at hw, g_arr (by decide)]) rfl (g_in hi) hd (by rw [g_nc (by omega), g_up32]; exact h9)
theorem g_narc {x : Int} (h : 0 ≤ x ∧ x < 65536) : vp_nar .char (Int32.ofInt x) = Int32.ofInt x := by
  rw [vp_nar_char]
  exact lg_i2c_small (by rw [g_ti (by omega)]; omega) (by rw [g_ti (by omega)]; omega)
theorem g_cstore {a n : Nat} {f : Nat → Int} {i x : Int} (hd : decode (mC M) pc = .ok (.castore, 1)) (hw : w[a]? = some (cArr 1 n f)) (hi : 0 ≤ i ∧ i < n ∧ n < 2147483648) (hx : 0 ≤ x ∧ x < 65536) (kk : G M scr al alE (pc + 1) L S (w.set a (cArr 1 n (va_up f i.toNat x))) bc bs Q) : G M scr al alE pc L (vI x :: vI i :: vR a :: S) w bc bs Q := by
  intro p l e R s m args below meth c D cA ad base A H locs cells slots mc ms ls fx dy hl
  obtain ⟨f1, f2, f3, f4, f5, f6, f7, f8, f9, f10, f11⟩ := id fx
  obtain ⟨d1, d2, d3, d4, d5, d6, d7⟩ := id dy
  have h9 := g_stored (e := e) (below := below) (alE := alE) (Q := Q) fx dy hl (List.length_set ..) (g_pos hw) kk
  rw [g_W_set, g_arr (by decide)] at h9
  exact va_cast f1 f3 d2 d1 d3 d4 a 1 (by rw [g_W_at hw, g_arr (by decide)]) rfl (g_in hi) hd (by rw [g_narc hx, g_nc (by omega), g_up32]; exact h9)
theorem g_zast {a n : Nat} {f : Nat → Int} {i x : Int} (hd : decode (mC M) pc = .ok (.bastore, 1)) (hw : w[a]? = some (cArr 2 n f)) (hi : 0 ≤ i ∧ i < n ∧ n < 2147483648) (hx : x = 0 ∨ x = 1) (kk : G M scr al alE (pc + 1) L S (w.set a (cArr 2 n (va_up f i.toNat x))) bc bs Q) : G M scr al alE pc L (vI x :: vI i :: vR a :: S) w bc bs Q := by
  intro p l e R s m args below meth c D cA ad base A H locs cells slots mc ms ls fx dy hl
  obtain ⟨f1, f2, f3, f4, f5, f6, f7, f8, f9, f10, f11⟩ := id fx
  obtain ⟨d1, d2, d3, d4, d5, d6, d7⟩ := id dy
  have h9 := g_stored (e := e) (below := below) (alE := alE) (Q := Q) fx dy hl (List.length_set ..) (g_pos hw) kk
  rw [g_W_set, g_arr (by decide)] at h9
  have hn : vp_nar .boolean (Int32.ofInt x) = Int32.ofInt x := by rcases hx with rfl | rfl <;> rfl
  exact va_zast f1 f3 d2 d1 d3 d4 a 2 (by rw [g_W_at hw, g_arr (by decide)]) rfl (g_in hi) hd (by rw [hn, g_nc (by omega), g_up32]; exact h9)
theorem g_last {a n : Nat} {f : Nat → Int} {i x : Int} (hd : decode (mC M) pc = .ok (.lastore, 1)) (hw : w[a]? = some (cArr 3 n f)) (hi : 0 ≤ i ∧ i < n ∧ n < 2147483648) (kk : G M scr al alE (pc + 1) L S (w.set a (cArr 3 n (va_up f i.toNat x))) bc bs Q) : G M scr al alE pc L (vL x :: vI i :: vR a :: S) w bc bs Q := by
  intro p l e R s m args below meth c D cA ad base A H locs cells slots mc ms ls fx dy hl
  obtain ⟨f1, f2, f3, f4, f5, f6, f7, f8, f9, f10, f11⟩ := id fx
  obtain ⟨d1, d2, d3, d4, d5, d6, d7⟩ := id dy
  have h9 := g_stored (e := e) (below := below) (alE := alE) (Q := Q) fx dy hl (List.length_set ..) (g_pos hw) kk
  rw [g_W_set, g_arrL] at h9
  exact va_last f1 f3 d2 d1 d3 d4 a 3 (by rw [g_W_at hw, g_arrL]) rfl (g_in hi) hd (by rw [g_nc (by omega), g_up64]; exact h9)
theorem g_aast {a n b : Nat} {f : Nat → Option Nat} {i : Int} {vs : List MV} (hd : decode (mC M) pc = .ok (.aastore, 1)) (hw : w[a]? = some (cRef n f)) (hi : 0 ≤ i ∧ i < n ∧ n < 2147483648) (hb : w[b]? = some (cObj 1 vs)) (kk : G M scr al alE (pc + 1) L S (w.set a (cRef n (va_up f i.toNat (some b)))) bc bs Q) : G M scr al alE pc L (vR b :: vI i :: vR a :: S) w bc bs Q := by
  intro p l e R s m args below meth c D cA ad base A H locs cells slots mc ms ls fx dy hl
  obtain ⟨f1, f2, f3, f4, f5, f6, f7, f8, f9, f10, f11⟩ := id fx
  obtain ⟨d1, d2, d3, d4, d5, d6, d7⟩ := id dy
  have h9 := g_stored (e := e) (below := below) (alE := alE) (Q := Q) fx dy hl (List.length_set ..) (g_pos hw) kk
  have e9 : g_C cA ad (cRef n (va_up f i.toNat (some b))) = .inl (cA 4, n, .inr (.inr (.inr (.inr (va_up (fun j => (f j).map ad) i.toNat (some (ad b))))))) := by
    have : (fun j => (va_up f i.toNat (some b) j).map ad) = va_up (fun j => (f j).map ad) i.toNat (some (ad b)) := by
      funext j
      unfold va_up
      by_cases h : j = i.toNat <;> simp [h]
    rw [← this]
    rfl
  rw [g_W_set, e9] at h9
  exact va_astq (r := (RX1, TX1, 10)) f1 f3 d2 d1 d3 d4 a 4 b 1 (g_W_at hw) rfl (g_W_at hb) rfl (g_in hi) hd (by rw [g_nc (by omega)]; exact h9)
/-! ends -/
theorem g_iret {z : Int} (hr : mR M = some .int) (hd : decode (mC M) pc = .ok (.ireturn, 1)) (hal : al = false → alE = false) (hq : Q (.inl (some (vI z))) w) : G M scr al alE pc L [vI z] w bc bs Q := by
  intro p l e R s m args below meth c D cA ad base A H locs cells slots mc ms ls fx dy hl
  obtain ⟨f1, f2, f3, f4, f5, f6, f7, f8, f9, f10, f11⟩ := id fx
  obtain ⟨d1, d2, d3, d4, d5, d6, d7⟩ := id dy
  refine W.widen (Nat.le_trans (Nat.le_add_right _ _) d6) (Nat.le_trans (Nat.le_add_right _ _) d7) (vx_ret (W.iret f1 f3 (by rw [f5, hr]) (fun t ht hW => ⟨⟨some (vI z), w, rfl, hq, by rw [ht]; exact d1, va_K.moved hW.alike d2, d3, fun h => ?_⟩, d4.F ht⟩) d4.2.2 hd f6))
  cases al with
  | false => rw [hal rfl] at h; cases h
  | true => rw [ht]; exact d5.1 rfl
theorem g_zret {z : Int} (hr : mR M = some .boolean) (hd : decode (mC M) pc = .ok (.ireturn, 1)) (hz : z = 0 ∨ z = 1) (hal : al = false → alE = false) (hq : Q (.inl (some (vI z))) w) : G M scr al alE pc L [vI z] w bc bs Q := by
  intro p l e R s m args below meth c D cA ad base A H locs cells slots mc ms ls fx dy hl
  obtain ⟨f1, f2, f3, f4, f5, f6, f7, f8, f9, f10, f11⟩ := id fx
  obtain ⟨d1, d2, d3, d4, d5, d6, d7⟩ := id dy
  refine W.widen (Nat.le_trans (Nat.le_add_right _ _) d6) (Nat.le_trans (Nat.le_add_right _ _) d7) (vx_ret (W.zret (ty := .boolean) f1 f3 (by rw [f5, hr]) (by rcases hz with rfl | rfl <;> rfl) (fun t ht hW => ⟨⟨some (vI z), w, rfl, hq, by rw [ht]; exact d1, va_K.moved hW.alike d2, d3, fun h => ?_⟩, d4.F ht⟩) d4.2.2 hd f6))
  cases al with
  | false => rw [hal rfl] at h; cases h
  | true => rw [ht]; exact d5.1 rfl
theorem g_cret {z : Int} (hr : mR M = some .char) (hd : decode (mC M) pc = .ok (.ireturn, 1)) (hz : 0 ≤ z ∧ z < 65536) (hal : al = false → alE = false) (hq : Q (.inl (some (vI z))) w) : G M scr al alE pc L [vI z] w bc bs Q := by
  intro p l e R s m args below meth c D cA ad base A H locs cells slots mc ms ls fx dy hl
  obtain ⟨f1, f2, f3, f4, f5, f6, f7, f8, f9, f10, f11⟩ := id fx
  obtain ⟨d1, d2, d3, d4, d5, d6, d7⟩ := id dy
  have hn : narrow .char (.int (Int32.ofInt z)) = .int (Int32.ofInt z) := by
    have h := g_narc hz
    unfold vp_nar at h
    revert h
    cases hh : narrow .char (.int (Int32.ofInt z)) <;> intro h <;> simp_all [narrow]
  refine W.widen (Nat.le_trans (Nat.le_add_right _ _) d6) (Nat.le_trans (Nat.le_add_right _ _) d7) (vx_ret (W.zret (ty := .char) f1 f3 (by rw [f5, hr]) hn (fun t ht hW => ⟨⟨some (vI z), w, rfl, hq, by rw [ht]; exact d1, va_K.moved hW.alike d2, d3, fun h => ?_⟩, d4.F ht⟩) d4.2.2 hd f6))
  cases al with
  | false => rw [hal rfl] at h; cases h
  | true => rw [ht]; exact d5.1 rfl
theorem g_lret {z : Int} (hr : mR M = some .long) (hd : decode (mC M) pc = .ok (.lreturn, 1)) (hal : al = false → alE = false) (hq : Q (.inl (some (vL z))) w) : G M scr al alE pc L [vL z] w bc bs Q := by
  intro p l e R s m args below meth c D cA ad base A H locs cells slots mc ms ls fx dy hl
  obtain ⟨f1, f2, f3, f4, f5, f6, f7, f8, f9, f10, f11⟩ := id fx
  obtain ⟨d1, d2, d3, d4, d5, d6, d7⟩ := id dy
  refine W.widen (Nat.le_trans (Nat.le_add_right _ _) d6) (Nat.le_trans (Nat.le_add_right _ _) d7) (vx_ret (W.lret f1 f3 (by rw [f5, hr]) (fun t ht hW => ⟨⟨some (vL z), w, rfl, hq, by rw [ht]; exact d1, va_K.moved hW.alike d2, d3, fun h => ?_⟩, d4.F ht⟩) d4.2.2 hd f6))
  cases al with
  | false => rw [hal rfl] at h; cases h
  | true => rw [ht]; exact d5.1 rfl
theorem g_vret (hr : mR M = none) (hd : decode (mC M) pc = .ok (.return_, 1)) (hal : al = false → alE = false) (hq : Q (.inl none) w) : G M scr al alE pc L [] w bc bs Q := by
  intro p l e R s m args below meth c D cA ad base A H locs cells slots mc ms ls fx dy hl
  obtain ⟨f1, f2, f3, f4, f5, f6, f7, f8, f9, f10, f11⟩ := id fx
  obtain ⟨d1, d2, d3, d4, d5, d6, d7⟩ := id dy
  refine W.widen (Nat.le_trans (Nat.le_add_right _ _) d6) (Nat.le_trans (Nat.le_add_right _ _) d7) (vx_ret (W.vret f1 f3 (by rw [f5, hr]) (fun t ht hW => ⟨⟨none, w, rfl, hq, by rw [ht]; exact d1, va_K.moved hW.alike d2, d3, fun h => ?_⟩, d4.F ht⟩) d4.2.2 hd f6))
  cases al with
  | false => rw [hal rfl] at h; cases h
  | true => rw [ht]; exact d5.1 rfl
end GCE
