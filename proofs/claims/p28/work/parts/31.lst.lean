/-! THE LAW'S MEMORY: its numbers, the pages of its frames as bits, the values of its frames; and the state that they hold -/
section LT9
def qf (σ : SG) : Nat → Int := fun j => if j = 0 then bsum (s_ex σ) 4 else if j = 1 then bsum (s_bg σ) 16 else if j = 2 then s_co σ else if j = 3 then s_fa σ else if j = 4 then s_te σ else if j = 5 then s_lo σ else if j = 6 then s_ea σ else 0
def um (fr : Nat → Int) : Nat → Int := fun f => pL (fun k => decide (fr k = (f : Int)))
def lawm (σ : SG) : DT := (qf σ, um (s_fr σ), s_va σ)
def setL (w : List MC) (a : Nat) (m : DT) : List MC := ((w.set a (cArr 0 7 m.1)).set (a + 1) (cArr 3 32 m.2.1)).set (a + 2) (cArr 0 32 m.2.2)
def okL (w : List MC) (a : Nat) : Prop := a + 2 < w.length
theorem l_len {w : List MC} {a : Nat} {m : DT} : (setL w a m).length = w.length := by simp [setL]
theorem l_at0 {w : List MC} {a : Nat} {m : DT} (h : okL w a) : (setL w a m)[a]? = some (cArr 0 7 m.1) := by
  unfold okL at h; unfold setL
  rw [List.getElem?_set_ne (by omega), List.getElem?_set_ne (by omega), List.getElem?_set_self (by omega)]
theorem l_at1 {w : List MC} {a : Nat} {m : DT} (h : okL w a) : (setL w a m)[a + 1]? = some (cArr 3 32 m.2.1) := by
  unfold okL at h; unfold setL
  rw [List.getElem?_set_ne (by omega), List.getElem?_set_self (by simp; omega)]
theorem l_at2 {w : List MC} {a : Nat} {m : DT} (h : okL w a) : (setL w a m)[a + 2]? = some (cArr 0 32 m.2.2) := by
  unfold okL at h; unfold setL
  rw [List.getElem?_set_self (by simp; omega)]
theorem l_out {w : List MC} {a j : Nat} {m : DT} (h : j < a ∨ a + 2 < j) : (setL w a m)[j]? = w[j]? := by
  unfold setL
  rw [List.getElem?_set_ne (by omega), List.getElem?_set_ne (by omega), List.getElem?_set_ne (by omega)]
theorem l_ext {w w' : List MC} {a : Nat} {m : DT} (h : okL w a) (h0 : w'[a]? = some (cArr 0 7 m.1)) (h1 : w'[a + 1]? = some (cArr 3 32 m.2.1)) (h2 : w'[a + 2]? = some (cArr 0 32 m.2.2)) (ho : ∀ j, j < a ∨ a + 2 < j → w'[j]? = w[j]?) : w' = setL w a m := by
  apply List.ext_getElem?
  intro j
  by_cases q : j < a ∨ a + 2 < j
  · rw [ho j q, l_out q]
  · rcases (by omega : j = a ∨ j = a + 1 ∨ j = a + 2) with rfl | rfl | rfl
    · rw [h0, l_at0 h]
    · rw [h1, l_at1 h]
    · rw [h2, l_at2 h]
theorem l_set0 {w : List MC} {a : Nat} {m : DT} {f : Nat → Int} (h : okL w a) : (setL w a m).set a (cArr 0 7 f) = setL w a (f, m.2) := by
  have hl : a < (setL w a m).length := by rw [l_len]; unfold okL at h; omega
  refine l_ext h (List.getElem?_set_self hl) ?_ ?_ (fun j hj => ?_)
  · rw [List.getElem?_set_ne (by omega), l_at1 h]
  · rw [List.getElem?_set_ne (by omega), l_at2 h]
  · rw [List.getElem?_set_ne (by omega), l_out hj]
theorem l_set1 {w : List MC} {a : Nat} {m : DT} {f : Nat → Int} (h : okL w a) : (setL w a m).set (a + 1) (cArr 3 32 f) = setL w a (m.1, f, m.2.2) := by
  have hl : a + 1 < (setL w a m).length := by rw [l_len]; unfold okL at h; omega
  refine l_ext h ?_ (List.getElem?_set_self hl) ?_ (fun j hj => ?_)
  · rw [List.getElem?_set_ne (by omega), l_at0 h]
  · rw [List.getElem?_set_ne (by omega), l_at2 h]
  · rw [List.getElem?_set_ne (by omega), l_out hj]
theorem l_set2 {w : List MC} {a : Nat} {m : DT} {f : Nat → Int} (h : okL w a) : (setL w a m).set (a + 2) (cArr 0 32 f) = setL w a (m.1, m.2.1, f) := by
  have hl : a + 2 < (setL w a m).length := by rw [l_len]; unfold okL at h; omega
  refine l_ext h ?_ ?_ (List.getElem?_set_self hl) (fun j hj => ?_)
  · rw [List.getElem?_set_ne (by omega), l_at0 h]
  · rw [List.getElem?_set_ne (by omega), l_at1 h]
  · rw [List.getElem?_set_ne (by omega), l_out hj]
theorem l_l {w : List MC} {a : Nat} {m m' : DT} (h : okL w a) : setL (setL w a m) a m' = setL w a m' := by
  have h' : okL (setL w a m) a := by unfold okL at h ⊢; rw [l_len]; exact h
  exact l_ext h (l_at0 h') (l_at1 h') (l_at2 h') (fun j hj => by rw [l_out hj, l_out hj])
theorem cL_set {κ : KT} {δ : DT} {o : DT} {t : DT} : setL (cW κ δ o) 79 t = cW κ t o := by
  unfold setL
  rw [w_q, w_u, w_v]
theorem cL_set2 {κ : KT} {δ : DT} {o : DT} {t : DT} : setL (cW κ δ o) 82 t = cW κ δ t := by
  unfold setL
  rw [w_q2, w_u2, w_v2]
theorem cL_ok {κ : KT} {δ : DT} {o : DT} : okL (cW κ δ o) 79 := by unfold okL; rw [c_len]; decide
theorem cL_ok2 {κ : KT} {δ : DT} {o : DT} : okL (cW κ δ o) 82 := by unfold okL; rw [c_len]; decide
theorem cL_self {κ : KT} {δ : DT} {o : DT} : cW κ δ o = setL (cW κ δ o) 79 δ := cL_set.symm
theorem cL_self2 {κ : KT} {δ : DT} {o : DT} : cW κ δ o = setL (cW κ δ o) 82 o := cL_set2.symm
/-! numbers -/
theorem qf_ex (σ : SG) (k : Nat) (x : Int) : va_up (qf σ) 0 (bsum (va_up (s_ex σ) k x) 4) = qf (s_setex σ k x) := by
  funext j
  by_cases q : j = 0
  · subst q; rw [up_s]; rfl
  · rw [up_n q]; unfold qf; simp only [if_neg q]; rfl
theorem qf_bg (σ : SG) (k : Nat) (x : Int) : va_up (qf σ) 1 (bsum (va_up (s_bg σ) k x) 16) = qf (s_setbg σ k x) := by
  funext j
  by_cases q : j = 1
  · subst q; rw [up_s]; rfl
  · rw [up_n q]; unfold qf; simp only [if_neg q]; rfl
theorem qf_co (σ : SG) (n : Int) : va_up (qf σ) 2 (s_co σ + n) = qf (s_addco σ n) := by
  funext j
  by_cases q : j = 2
  · subst q; rw [up_s]; rfl
  · rw [up_n q]; unfold qf; simp only [if_neg q]; rfl
theorem qf_fa (σ : SG) (n : Int) : va_up (qf σ) 3 (s_fa σ + n) = qf (s_addfa σ n) := by
  funext j
  by_cases q : j = 3
  · subst q; rw [up_s]; rfl
  · rw [up_n q]; unfold qf; simp only [if_neg q]; rfl
theorem qf_te (σ : SG) (n : Int) : va_up (qf σ) 4 (s_te σ + n) = qf (s_addte σ n) := by
  funext j
  by_cases q : j = 4
  · subst q; rw [up_s]; rfl
  · rw [up_n q]; unfold qf; simp only [if_neg q]; rfl
theorem qf_lo (σ : SG) (n : Int) : va_up (qf σ) 5 (s_lo σ + n) = qf (s_addlo σ n) := by
  funext j
  by_cases q : j = 5
  · subst q; rw [up_s]; rfl
  · rw [up_n q]; unfold qf; simp only [if_neg q]; rfl
theorem qf_ea (σ : SG) (x : Int) : va_up (qf σ) 6 x = qf (s_setea σ x) := by
  funext j
  by_cases q : j = 6
  · subst q; rw [up_s]; rfl
  · rw [up_n q]; unfold qf; simp only [if_neg q]; rfl
theorem qf_big {σ : SG} (hi : Inv σ) {G : Nat} (h : G < 16) : va_up (qf σ) 1 (b_or (bsum (s_bg σ) 16) (b_shl 1 G)) = qf (s_setbg σ G 1) := by rw [z_set hi.2.2.1 (by decide) h, qf_bg]
theorem qf_sml {σ : SG} (hi : Inv σ) {G : Nat} (h : G < 16) : va_up (qf σ) 1 (b_and (bsum (s_bg σ) 16) (b_xor (b_shl 1 G) (-1))) = qf (s_setbg σ G 0) := by rw [z_clr hi.2.2.1 (by decide) h, qf_bg]
theorem b_andm (x : Int) (h : -2147483648 ≤ x ∧ x < 2147483648) : b_and x (-1) = x := by
  unfold b_and
  have e : Int32.ofInt x &&& Int32.ofInt (-1) = Int32.ofInt x := z_ext fun i hi => by rw [z_and, show Int32.ofInt (-1) = -1 from rfl, z_m1 i hi, Bool.and_true]
  rw [e, g_ti h]
theorem bg_rng {σ : SG} (hi : Inv σ) : 0 ≤ bsum (s_bg σ) 16 ∧ bsum (s_bg σ) 16 < 65536 := bsum_rng hi.2.2.1 16
theorem ex_rng {σ : SG} (hi : Inv σ) : 0 ≤ bsum (s_ex σ) 4 ∧ bsum (s_ex σ) 4 < 16 := bsum_rng hi.2.2.2.2.2.2.1 4
/-! bits of frames -/
theorem um_rng (fr : Nat → Int) (f : Nat) : -9223372036854775808 ≤ um fr f ∧ um fr f < 9223372036854775808 := pL_rng _
theorem um_0 {fr : Nat → Int} {f : Nat} : um fr f = 0 ↔ uses fr f = 0 := m_zero
theorem um_0x {fr : Nat → Int} {x : Int} (h : 0 ≤ x) : um fr x.toNat = 0 ↔ uses fr x = 0 := by
  rw [um_0, Int.toNat_of_nonneg h]
theorem um_get (fr : Nat → Int) (f : Nat) {k : Nat} (hk : k < 64) : b_andL (b_shrL (um fr f) (k : Int)) 1 = b2 (decide (fr k = (f : Int))) := m_get _ hk
theorem um_up (fr : Nat → Int) (k : Nat) (x : Int) (f : Nat) : um (va_up fr k x) f = pL (fun j => if j = k then decide (x = (f : Int)) else decide (fr j = (f : Int))) := by
  unfold um
  refine pL_cong fun i _ => ?_
  by_cases q : i = k
  · subst q; rw [if_pos rfl, up_s]
  · rw [if_neg q, up_n q]
theorem um_same {fr : Nat → Int} {k : Nat} {x : Int} {f : Nat} (h1 : fr k ≠ f) (h2 : x ≠ f) : um (va_up fr k x) f = um fr f := by
  rw [um_up]
  refine pL_cong fun i _ => ?_
  by_cases q : i = k
  · subst q; rw [if_pos rfl]; simp [h1, h2]
  · rw [if_neg q]
theorem um_take {fr : Nat → Int} {k f : Nat} (hk : k < 64) (h : uses fr f = 0) : um (va_up fr k f) f = b_shlL 1 k := by
  rw [um_up, m_bit hk]
  refine pL_cong fun i hi => ?_
  by_cases q : i = k
  · rw [if_pos q]; simp [q]
  · rw [if_neg q]
    have h1 := ct_zero.mp h i hi
    simp only [decide_eq_true_eq] at h1
    simp [q, h1]
theorem um_drop {fr : Nat → Int} {k f : Nat} {x : Int} (hk : k < 64) (h2 : x ≠ f) : um (va_up fr k x) f = b_andL (um fr f) (b_xorL (b_shlL 1 k) (-1)) := by
  rw [um_up, m_bit hk, m_not]
  unfold um
  rw [m_and]
  refine pL_cong fun i hi => ?_
  by_cases q : i = k
  · rw [if_pos q]; simp [q, h2]
  · rw [if_neg q]; simp [q]
theorem um_last {fr : Nat → Int} {k f : Nat} {x : Int} (hk : k < 64) (h : fr k = f) (h1 : uses fr f = 1) (h2 : x ≠ f) : um (va_up fr k x) f = 0 := by
  have h3 := uses_up fr (k := k) x f hk
  rw [if_pos h, if_neg h2] at h3
  exact um_0.mpr (by omega)
/-- a frame is taken by a page that had none -/
theorem um_wr0 {fr : Nat → Int} {k t : Nat} (hk : k < 64) (h : fr k = -1) (h1 : uses fr t = 0) : va_up (um fr) t (b_shlL 1 k) = um (va_up fr k t) := by
  funext j
  by_cases q : j = t
  · subst q; rw [up_s, um_take hk h1]
  · rw [up_n q, um_same (by omega) (by omega)]
/-- .. by a page that lets another go -/
theorem um_wr1 {fr : Nat → Int} {k t f : Nat} (hk : k < 64) (h : fr k = f) (h1 : uses fr t = 0) : va_up (va_up (um fr) t (b_shlL 1 k)) f (b_andL (va_up (um fr) t (b_shlL 1 k) f) (b_xorL (b_shlL 1 k) (-1))) = um (va_up fr k t) := by
  have hft : f ≠ t := by
    rintro rfl
    have := uses_pos (fr := fr) hk h
    omega
  funext j
  by_cases q : j = f
  · subst q; rw [up_s, up_n hft, um_drop hk (by omega)]
  · rw [up_n q]
    by_cases q2 : j = t
    · subst q2; rw [up_s, um_take hk h1]
    · rw [up_n q2, um_same (by omega) (by omega)]
theorem um_off {fr : Nat → Int} {k f : Nat} (hk : k < 64) (h : fr k = f) (h1 : uses fr f = 1) : va_up (um fr) f 0 = um (va_up fr k (-1)) := by
  funext j
  by_cases q : j = f
  · subst q; rw [up_s, um_last hk h h1 (by omega)]
  · rw [up_n q, um_same (by omega) (by omega)]
theorem um_mv {fr : Nat → Int} {k f t : Nat} (hk : k < 64) (h : fr k = f) (h1 : uses fr f = 1) (h2 : uses fr t = 0) : va_up (va_up (um fr) f 0) t (b_shlL 1 k) = um (va_up fr k t) := by
  have hft : f ≠ t := by
    rintro rfl
    omega
  funext j
  by_cases q : j = t
  · subst q; rw [up_s, um_take hk h2]
  · rw [up_n q]
    by_cases q2 : j = f
    · subst q2; rw [up_s, um_last hk h h1 (by omega)]
    · rw [up_n q2, um_same (by omega) (by omega)]
/-- the rows of a run together -/
theorem um_or {fr : Nat → Int} {a b c d : Nat} : b_orL (b_orL (b_orL (um fr a) (um fr b)) (um fr c)) (um fr d) = 0 ↔ uses fr a = 0 ∧ uses fr b = 0 ∧ uses fr c = 0 ∧ uses fr d = 0 := by
  unfold um
  rw [m_or, m_or, m_or, m_zero, ct_zero]
  have hz : ∀ f : Nat, uses fr f = 0 ↔ ∀ k, k < 64 → ¬ decide (fr k = (f : Int)) = true := fun f => ct_zero
  rw [hz, hz, hz, hz]
  constructor
  · intro h
    refine ⟨fun k hk q => h k hk ?_, fun k hk q => h k hk ?_, fun k hk q => h k hk ?_, fun k hk q => h k hk ?_⟩ <;> rw [q] <;> simp
  · rintro ⟨h1, h2, h3, h4⟩ k hk q
    rw [Bool.or_eq_true, Bool.or_eq_true, Bool.or_eq_true] at q
    rcases q with ((q | q) | q) | q
    · exact h1 k hk q
    · exact h2 k hk q
    · exact h3 k hk q
    · exact h4 k hk q
theorem orL_rng (x y : Int) : -9223372036854775808 ≤ b_orL x y ∧ b_orL x y < 9223372036854775808 := by
  have h1 := Int64.minValue_le_toInt (Int64.ofInt x ||| Int64.ofInt y)
  have h2 := Int64.toInt_lt (Int64.ofInt x ||| Int64.ofInt y)
  have h3 : Int64.minValue.toInt = -9223372036854775808 := by decide
  unfold b_orL
  omega
theorem andL_rng (x y : Int) : -9223372036854775808 ≤ b_andL x y ∧ b_andL x y < 9223372036854775808 := by
  have h1 := Int64.minValue_le_toInt (Int64.ofInt x &&& Int64.ofInt y)
  have h2 := Int64.toInt_lt (Int64.ofInt x &&& Int64.ofInt y)
  have h3 : Int64.minValue.toInt = -9223372036854775808 := by decide
  unfold b_andL
  omega
theorem b_cmp_0 (x y : Int) : b_cmp x y = 0 ↔ x = y := by
  unfold b_cmp
  (repeat' split) <;> omega
theorem b_cmp_rng (x y : Int) : -1 ≤ b_cmp x y ∧ b_cmp x y ≤ 1 := by
  unfold b_cmp
  (repeat' split) <;> omega
/-! what is asked of a state by page and group alone -/
theorem fo_k {σ : SG} {k p v : Int} (hk : k = 16 * p + v) (hp : 0 ≤ p ∧ p < 4) (hv : 0 ≤ v ∧ v < 16) : s_fr σ k.toNat = fo σ p v := by rw [fo_in hp hv, hk]
theorem bit_bg {σ : SG} (hi : Inv σ) {G p g : Int} (hG : G = 4 * p + g) (hp : 0 ≤ p ∧ p < 4) (hg : 0 ≤ g ∧ g < 4) : b_and (b_shr (bsum (s_bg σ) 16) G) 1 = b2 (big σ p g) := by
  obtain ⟨n, rfl⟩ := Int.eq_ofNat_of_zero_le (show 0 ≤ G by omega)
  rw [z_get hi.2.2.1 (by decide) (by omega)]
  have h1 := hi.2.2.1 n
  have e : (4 * p + g).toNat = n := by omega
  by_cases q : s_bg σ n = 1
  · rw [q]
    exact (b2_t (decide_eq_true ⟨hp.1, hp.2, hg.1, hg.2, by rw [e]; exact q⟩)).symm
  · rw [show s_bg σ n = 0 by omega]
    refine (b2_f fun z => q ?_).symm
    have := (of_decide_eq_true z).2.2.2.2
    rw [e] at this
    exact this
theorem bit_ex {σ : SG} (hi : Inv σ) {p : Int} (hp : 0 ≤ p ∧ p < 4) : b_and (b_shr (bsum (s_ex σ) 4) p) 1 = b2 (hasP σ p) := by
  obtain ⟨n, rfl⟩ := Int.eq_ofNat_of_zero_le hp.1
  rw [z_get hi.2.2.2.2.2.2.1 (by decide) (by omega)]
  have h1 := hi.2.2.2.2.2.2.1 n
  by_cases q : s_ex σ n = 1
  · rw [q]
    exact (b2_t (decide_eq_true ⟨hp.1, hp.2, by rw [Int.toNat_natCast]; exact q⟩)).symm
  · rw [show s_ex σ n = 0 by omega]
    refine (b2_f fun z => q ?_).symm
    have := (of_decide_eq_true z).2.2
    rw [Int.toNat_natCast] at this
    exact this
theorem rf_iff {σ : SG} {r : Int} (hr : 0 ≤ r) : rf σ r = true ↔ uses (s_fr σ) (4 * r) = 0 ∧ uses (s_fr σ) (4 * r + 1) = 0 ∧ uses (s_fr σ) (4 * r + 2) = 0 ∧ uses (s_fr σ) (4 * r + 3) = 0 := by
  have hu := fun f => uses_rng (s_fr σ) f
  unfold rf
  rw [decide_eq_true_eq, ct_zero]
  constructor
  · intro h
    have h0 := h 0 (by omega)
    have h1 := h 1 (by omega)
    have h2 := h 2 (by omega)
    have h3 := h 3 (by omega)
    simp only [decide_eq_true_eq] at h0 h1 h2 h3
    have e0 := hu (4 * r + ((0 : Nat) : Int))
    have e1 := hu (4 * r + 1)
    have e2 := hu (4 * r + 2)
    have e3 := hu (4 * r + 3)
    have h1 : ¬ 0 < uses (s_fr σ) (4 * r + 1) := h1
    have h2 : ¬ 0 < uses (s_fr σ) (4 * r + 2) := h2
    have h3 : ¬ 0 < uses (s_fr σ) (4 * r + 3) := h3
    have a0 : (4 * r + ((0 : Nat) : Int)) = 4 * r := by omega
    rw [a0] at h0 e0
    exact ⟨by omega, by omega, by omega, by omega⟩
  · rintro ⟨h0, h1, h2, h3⟩ k hk q
    have q1 := of_decide_eq_true q
    rcases (by omega : k = 0 ∨ k = 1 ∨ k = 2 ∨ k = 3) with rfl | rfl | rfl | rfl
    · rw [show (4 * r + ((0 : Nat) : Int)) = 4 * r by omega] at q1
      omega
    · exact absurd q1 (by show ¬ 0 < uses (s_fr σ) (4 * r + 1); omega)
    · exact absurd q1 (by show ¬ 0 < uses (s_fr σ) (4 * r + 2); omega)
    · exact absurd q1 (by show ¬ 0 < uses (s_fr σ) (4 * r + 3); omega)
/-- the single frame, as the law finds it -/
theorem lsf_law {σ : SG} : lsf σ = if lsf1 σ = -1 then (if lfr σ = -1 then -1 else 4 * lfr σ) else lsf1 σ := by
  unfold lsf
  by_cases h1 : lsf1 σ = -1
  · rw [if_pos h1, if_pos h1]
    have hall : ∀ f, f < 32 → uses (s_fr σ) ((f : Nat) : Int) = 0 → rf σ ((f / 4 : Nat) : Int) = true := by
      intro f hf h0
      rcases ff_cases (fun f => decide (uses (s_fr σ) f = 0) && !(rf σ ((f : Int).tdiv 4))) 32 with ⟨-, h2⟩ | ⟨k, h2, -⟩
      · have h3 := h2 f hf
        rw [Bool.and_eq_true, decide_eq_true_eq] at h3
        have h4 : ¬ (!(rf σ ((f : Int).tdiv ((4 : Nat) : Int)))) = true := fun z => h3 ⟨h0, z⟩
        rw [n_dv] at h4
        simpa using h4
      · have : lsf1 σ = k := h2
        omega
    by_cases h2 : lfr σ = -1
    · rw [if_pos h2]
      refine ff_none fun f hf h0 => ?_
      have h3 := hall f hf (of_decide_eq_true h0)
      rcases ff_cases (fun r => rf σ r) 8 with ⟨-, h4⟩ | ⟨k, h4, -⟩
      · exact h4 (f / 4) (by omega) h3
      · have : lfr σ = k := h4
        omega
    · rw [if_neg h2]
      rcases ff_cases (fun r => rf σ r) 8 with ⟨h4, -⟩ | ⟨k, h4, h5, h6, h7⟩
      · exact absurd h4 h2
      · have e : lfr σ = k := h4
        rw [e]
        have h8 := (rf_iff (σ := σ) (r := (k : Int)) (by omega)).mp h6
        have := ff_some (p := fun f => decide (uses (s_fr σ) f = 0)) (k := 4 * k) (decide_eq_true (by rw [show ((4 * k : Nat) : Int) = 4 * (k : Int) by omega]; exact h8.1)) (fun j hj z => by
          have h9 := hall j (by omega) (of_decide_eq_true z)
          exact h7 (j / 4) (by omega) h9) (n := 32) (by omega)
        show ff (fun f => decide (uses (s_fr σ) f = 0)) 32 = _
        rw [this]
        omega
  · rw [if_neg h1, if_neg h1]
end LT9
