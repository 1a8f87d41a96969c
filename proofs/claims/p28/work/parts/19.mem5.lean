/-! MEMORY, made, begun anew, copied (printed by wip/whole/mem5.py, but for the first rows) -/
def s_new : SG := (fun k => if k < 64 then -1 else 0, fun _ => 0, fun _ => 0, fun k => if k = 0 then 1 else 0, 0, 0, 0, 0, 0)
theorem inv_new : Inv s_new := by
  refine ⟨fun k => ?_, fun k hk => ?_, fun k => Or.inl rfl, fun k hk => rfl, fun k => ⟨Int.le_refl 0, (by decide : (0 : Int) < 100)⟩, fun k hk => rfl, fun k => ?_, fun k hk => ?_, Or.inl rfl, fun p v hp hv h => ?_, fun p g hp hg h => rfl⟩
  · show -1 ≤ (if k < 64 then (-1 : Int) else 0) ∧ (if k < 64 then (-1 : Int) else 0) < 32
    split <;> omega
  · show (if k < 64 then (-1 : Int) else 0) = 0
    rw [if_neg (by omega)]
  · show (if k = 0 then (1 : Int) else 0) = 0 ∨ (if k = 0 then (1 : Int) else 0) = 1
    split <;> omega
  · show (if k = 0 then (1 : Int) else 0) = 0
    rw [if_neg (by omega)]
  · show (if 16 * p + v < 64 then (-1 : Int) else 0) = -1
    rw [if_pos (by omega)]
theorem mem_new : mem s_new = (fun k => if k < 64 then -1 else 0, fun _ => 0, fun _ => 0, 1, 0, 0, 0, 0, 0, 0) := by
  have h : (fun f : Nat => uses (s_fr s_new) f) = fun _ => 0 := by
    funext f
    refine ct_zero.mpr (fun k hk => ?_)
    rw [decide_eq_true_eq]
    show ¬ (if k < 64 then (-1 : Int) else 0) = f
    rw [if_pos hk]
    omega
  unfold mem
  rw [h]
  rfl
theorem fil_up (f : Nat → Int) (x : Int) (k : Nat) : va_up (fun j => if j < k then x else f j) ((k : Int)).toNat x = fun j => if j < k + 1 then x else f j := by
  funext j
  unfold va_up
  rw [Int.toNat_natCast]
  by_cases h : j = k
  · rw [if_pos h, if_pos (by omega)]
  · rw [if_neg h]
    show (if j < k then x else f j) = _
    by_cases q : j < k
    · rw [if_pos q, if_pos (by omega)]
    · rw [if_neg q, if_neg (by omega)]
theorem fil_0 (f : Nat → Int) (x : Int) : (fun j => if j < 0 then x else f j) = f := by
  funext j
  exact if_neg (Nat.not_lt_zero j)
theorem fil_all {f : Nat → Int} {x : Int} {n : Nat} {g : Nat → Int} (h : ∀ j, (j < n → g j = x) ∧ (n ≤ j → g j = f j)) : (fun j => if j < n then x else f j) = g := by
  funext j
  by_cases q : j < n
  · rw [if_pos q, (h j).1 q]
  · rw [if_neg q, (h j).2 (by omega)]
def rdM (w : List MC) (b : Nat) (n : MSm) : Prop := w[b]? = some (cObj 1 (memL b n)) ∧ w[b + 1]? = some (cArr 0 64 n.1) ∧ w[b + 2]? = some (cArr 0 32 n.2.1) ∧ w[b + 3]? = some (cArr 0 32 n.2.2.1)
theorem rd_at0 {w : List MC} {a b : Nat} {m n : MSm} (h : rdM w b n) (hd : b + 3 < a ∨ a + 3 < b) : (setM w a m)[b]? = some (cObj 1 (memL b n)) := by rw [m_out (by omega)]; exact h.1
theorem rd_at1 {w : List MC} {a b : Nat} {m n : MSm} (h : rdM w b n) (hd : b + 3 < a ∨ a + 3 < b) : (setM w a m)[b + 1]? = some (cArr 0 64 n.1) := by rw [m_out (by omega)]; exact h.2.1
theorem rd_at2 {w : List MC} {a b : Nat} {m n : MSm} (h : rdM w b n) (hd : b + 3 < a ∨ a + 3 < b) : (setM w a m)[b + 2]? = some (cArr 0 32 n.2.1) := by rw [m_out (by omega)]; exact h.2.2.1
theorem rd_at3 {w : List MC} {a b : Nat} {m n : MSm} (h : rdM w b n) (hd : b + 3 < a ∨ a + 3 < b) : (setM w a m)[b + 3]? = some (cArr 0 32 n.2.2.1) := by rw [m_out (by omega)]; exact h.2.2.2
theorem cpy_all {f g : Nat → Int} {n : Nat} (h : ∀ k, n ≤ k → g k = f k) : va_cpy f g 0 0 n = f := by
  funext k
  unfold va_cpy
  by_cases q : k < n
  · rw [if_pos (by omega), show 0 + (k - 0) = k by omega]
  · rw [if_neg (by omega), h k (by omega)]
theorem us_out {σ : SG} (hi : Inv σ) {k : Nat} (hk : 32 ≤ k) : uses (s_fr σ) k = 0 := by
  refine ct_zero.mpr (fun j hj => ?_)
  rw [decide_eq_true_eq]
  have := hi.1 j
  omega
/-- a memory's cells, made in a row -/
def memC (a : Nat) (m : MSm) : List MC := [cObj 1 (memL a m), cArr 0 64 m.1, cArr 0 32 m.2.1, cArr 0 32 m.2.2.1]
theorem memC_set (w : List MC) (m m' : MSm) : setM (w ++ memC w.length m) w.length m' = w ++ memC w.length m' := by
  unfold setM memC
  simp [List.set_append]
theorem app_set (w l : List MC) (i : Nat) (c : MC) : (w ++ l).set (w.length + i) c = w ++ l.set i c := by simp [List.set_append]
theorem app_get (w l : List MC) (i : Nat) : (w ++ l)[w.length + i]? = l[i]? := by
  rw [List.getElem?_append_right (by omega), Nat.add_sub_cancel_left]
abbrev nul1 : List MV := [vN, vN, vN, vI 0, vI 0, vI 0, vI 0, vI 0, vI 0, vI 0]
section
variable {M : MT} {scr : Option (Nat × (Nat → Int))} {al alE : Bool} {pc : Nat} {L : List (Option MV)} {S : List MV} {w : List MC} {bc bs : Nat} {Q : (Option MV) ⊕ String → List MC → Prop}
theorem g_newI {z : Int} {n : Nat} (hd : decode (mC M) pc = .ok (.newarray .int, 2)) (hz : 0 ≤ z ∧ z < 2147483648) (hn : z.toNat = n) (hbytes : n * 4 ≤ 536870912) (hlen : w.length + 1 < SCR) (kk : G M scr true alE (pc + 2) L (vR w.length :: S) (w ++ [cArr 0 n fun _ => 0]) bc bs Q) : G M scr true alE pc L (vI z :: S) w (bc + 1) (bs + n) Q :=
  g_newa (at9 := .int) (ty := .int) (t := 0) rfl ac_int (fun cA => rfl) (fun cA ad => ⟨rfl, rfl⟩) (fun U cA h => h) hd hz hn hbytes hlen kk
theorem g_newC {z : Int} {n : Nat} (hd : decode (mC M) pc = .ok (.newarray .char, 2)) (hz : 0 ≤ z ∧ z < 2147483648) (hn : z.toNat = n) (hbytes : n * 2 ≤ 536870912) (hlen : w.length + 1 < SCR) (kk : G M scr true alE (pc + 2) L (vR w.length :: S) (w ++ [cArr 1 n fun _ => 0]) bc bs Q) : G M scr true alE pc L (vI z :: S) w (bc + 1) (bs + n) Q :=
  g_newa (at9 := .char) (ty := .char) (t := 1) rfl ac_char (fun cA => rfl) (fun cA ad => ⟨rfl, rfl⟩) (fun U cA h => h) hd hz hn hbytes hlen kk
theorem g_newZ {z : Int} {n : Nat} (hd : decode (mC M) pc = .ok (.newarray .boolean, 2)) (hz : 0 ≤ z ∧ z < 2147483648) (hn : z.toNat = n) (hbytes : n * 1 ≤ 536870912) (hlen : w.length + 1 < SCR) (kk : G M scr true alE (pc + 2) L (vR w.length :: S) (w ++ [cArr 2 n fun _ => 0]) bc bs Q) : G M scr true alE pc L (vI z :: S) w (bc + 1) (bs + n) Q :=
  g_newa (at9 := .boolean) (ty := .boolean) (t := 2) rfl ac_boolean (fun cA => rfl) (fun cA ad => ⟨rfl, rfl⟩) (fun U cA h => h) hd hz hn hbytes hlen kk
theorem g_newL {z : Int} {n : Nat} (hd : decode (mC M) pc = .ok (.newarray .long, 2)) (hz : 0 ≤ z ∧ z < 2147483648) (hn : z.toNat = n) (hbytes : n * 8 ≤ 536870912) (hlen : w.length + 1 < SCR) (kk : G M scr true alE (pc + 2) L (vR w.length :: S) (w ++ [cArr 3 n fun _ => 0]) bc bs Q) : G M scr true alE pc L (vI z :: S) w (bc + 1) (bs + n) Q :=
  g_newa (at9 := .long) (ty := .long) (t := 3) rfl ac_long (fun cA => rfl) (fun cA ad => ⟨rfl, rfl⟩) (fun U cA h => h) hd hz hn hbytes hlen kk
end
set_option maxRecDepth 20000 in
set_option maxHeartbeats 4000000 in
theorem t_X1_beginAnew {w : List MC} {a : Nat} {al : Bool} {fr us va : Nat → Int} {pr bg ea co fa te lo : Int} (hw : okM w a) (hz : (∀ k, 64 ≤ k → fr k = 0) ∧ (∀ k, 32 ≤ k → us k = 0) ∧ ∀ k, 32 ≤ k → va k = 0) : GM M_X1_beginAnew al [vR a] (setM w a (fr, us, va, pr, bg, ea, co, fa, te, lo)) 0 0 (dt none (setM w a (mem s_new))) := by
  show G _ none _ _ 0 [some (vR a), none] [] _ _ _ _
  refine g_iconst (pc := 0) dX1_beginAnew_0 ?_
  refine g_istore_n (i := 1) (pc := 1) dX1_beginAnew_1 rfl (by decide) rfl ?_
  simp only [List.set_cons_succ, List.set_cons_zero]
  refine G.eqw (w' := setM w a ((fun j => if j < 0 then (-1) else fr j), us, va, pr, bg, ea, co, fa, te, lo)) (by rw [fil_0]) ?_
  refine lp_up (P := fun k => G M_X1_beginAnew none al al 2 [some (vR a), some (vI k)] [] (setM w a ((fun j => if j < k then (-1) else fr j), us, va, pr, bg, ea, co, fa, te, lo)) 0 0 (dt none (setM w a (mem s_new)))) 64 ?_ ?_ 0 (Nat.zero_le _)
  · show G _ _ _ _ _ _ _ _ _ _ _
    refine g_iload_n (i := 1) (pc := 2) dX1_beginAnew_2 rfl rfl ?_
    refine g_bipush (pc := 3) dX1_beginAnew_3 (by decide) ?_
    refine g_c_ge (tgt := 21) (pc := 5) dX1_beginAnew_5 (by omega) (by decide) (fun c5 => ?_) (fun c5 => absurd c5 (by omega))
    refine g_iconst (pc := 21) dX1_beginAnew_21 ?_
    refine g_istore_n (i := 1) (pc := 22) dX1_beginAnew_22 rfl (by decide) rfl ?_
    simp only [List.set_cons_succ, List.set_cons_zero]
    refine G.eqw (w' := setM w a ((fun j => if j < 64 then (-1) else fr j), (fun j => if j < 0 then 0 else us j), (fun j => if j < 0 then 0 else va j), pr, bg, ea, co, fa, te, lo)) (by rw [fil_0, fil_0]) ?_
    refine lp_up (P := fun k => G M_X1_beginAnew none al al 23 [some (vR a), some (vI k)] [] (setM w a ((fun j => if j < 64 then (-1) else fr j), (fun j => if j < k then 0 else us j), (fun j => if j < k then 0 else va j), pr, bg, ea, co, fa, te, lo)) 0 0 (dt none (setM w a (mem s_new)))) 32 ?_ ?_ 0 (Nat.zero_le _)
    · show G _ _ _ _ _ _ _ _ _ _ _
      refine g_iload_n (i := 1) (pc := 23) dX1_beginAnew_23 rfl rfl ?_
      refine g_bipush (pc := 24) dX1_beginAnew_24 (by decide) ?_
      refine g_c_ge (tgt := 49) (pc := 26) dX1_beginAnew_26 (by omega) (by decide) (fun c26 => ?_) (fun c26 => absurd c26 (by omega))
      refine g_aload_n (i := 0) (pc := 49) dX1_beginAnew_49 rfl rfl ?_
      refine g_iconst (pc := 50) dX1_beginAnew_50 ?_
      refine g_put (pc := 51) ft_X1_24 dX1_beginAnew_51 (m_at0 hw) (Nat.le_of_ble_eq_true rfl) (fun _ => rfl) (fun _ => rfl) (fun h => nomatch h) ?_
      refine G.eqw (m_put3 hw) ?_
      refine g_aload_n (i := 0) (pc := 54) dX1_beginAnew_54 rfl rfl ?_
      refine g_iconst (pc := 55) dX1_beginAnew_55 ?_
      refine g_put (pc := 56) ft_X1_28 dX1_beginAnew_56 (m_at0 hw) (Nat.le_of_ble_eq_true rfl) (fun _ => rfl) (fun _ => rfl) (fun h => nomatch h) ?_
      refine G.eqw (m_put4 hw) ?_
      refine g_aload_n (i := 0) (pc := 59) dX1_beginAnew_59 rfl rfl ?_
      refine g_iconst (pc := 60) dX1_beginAnew_60 ?_
      refine g_put (pc := 61) ft_X1_31 dX1_beginAnew_61 (m_at0 hw) (Nat.le_of_ble_eq_true rfl) (g_zn (by omega)) (g_zf (by omega)) (fun h => nomatch h) ?_
      refine G.eqw (m_put5 hw) ?_
      refine g_aload_n (i := 0) (pc := 64) dX1_beginAnew_64 rfl rfl ?_
      refine g_iconst (pc := 65) dX1_beginAnew_65 ?_
      refine g_put (pc := 66) ft_X1_35 dX1_beginAnew_66 (m_at0 hw) (Nat.le_of_ble_eq_true rfl) (fun _ => rfl) (fun _ => rfl) (fun h => nomatch h) ?_
      refine G.eqw (m_put6 hw) ?_
      refine g_aload_n (i := 0) (pc := 69) dX1_beginAnew_69 rfl rfl ?_
      refine g_iconst (pc := 70) dX1_beginAnew_70 ?_
      refine g_put (pc := 71) ft_X1_38 dX1_beginAnew_71 (m_at0 hw) (Nat.le_of_ble_eq_true rfl) (fun _ => rfl) (fun _ => rfl) (fun h => nomatch h) ?_
      refine G.eqw (m_put7 hw) ?_
      refine g_aload_n (i := 0) (pc := 74) dX1_beginAnew_74 rfl rfl ?_
      refine g_iconst (pc := 75) dX1_beginAnew_75 ?_
      refine g_put (pc := 76) ft_X1_41 dX1_beginAnew_76 (m_at0 hw) (Nat.le_of_ble_eq_true rfl) (fun _ => rfl) (fun _ => rfl) (fun h => nomatch h) ?_
      refine G.eqw (m_put8 hw) ?_
      refine g_aload_n (i := 0) (pc := 79) dX1_beginAnew_79 rfl rfl ?_
      refine g_iconst (pc := 80) dX1_beginAnew_80 ?_
      refine g_put (pc := 81) ft_X1_44 dX1_beginAnew_81 (m_at0 hw) (Nat.le_of_ble_eq_true rfl) (fun _ => rfl) (fun _ => rfl) (fun h => nomatch h) ?_
      refine G.eqw (m_put9 hw) ?_
      refine g_vret (pc := 84) rfl dX1_beginAnew_84 (fun h => h) ?_
      rw [mem_new]
      refine dt_v ?_
      have e1 := fil_all (f := fr) (x := -1) (n := 64) (g := fun k => if k < 64 then -1 else 0) (fun j => ⟨fun h => if_pos h, fun h => (if_neg (by omega)).trans (hz.1 j h).symm⟩)
      have e2 := fil_all (f := us) (x := 0) (n := 32) (g := fun _ => 0) (fun j => ⟨fun h => rfl, fun h => (hz.2.1 j h).symm⟩)
      have e3 := fil_all (f := va) (x := 0) (n := 32) (g := fun _ => 0) (fun j => ⟨fun h => rfl, fun h => (hz.2.2 j h).symm⟩)
      rw [e1, e2, e3]
    · intro k hk ih
      show G _ _ _ _ _ _ _ _ _ _ _
      refine g_iload_n (i := 1) (pc := 23) dX1_beginAnew_23 rfl rfl ?_
      refine g_bipush (pc := 24) dX1_beginAnew_24 (by decide) ?_
      refine g_c_ge (tgt := 49) (pc := 26) dX1_beginAnew_26 (by omega) (by decide) (fun c26 => absurd c26 (by omega)) (fun c26 => ?_)
      refine g_aload_n (i := 0) (pc := 29) dX1_beginAnew_29 rfl rfl ?_
      refine g_getf (pc := 30) f_X1_15 dX1_beginAnew_30 (m_at0 hw) rfl ?_
      refine g_iload_n (i := 1) (pc := 33) dX1_beginAnew_33 rfl rfl ?_
      refine g_iconst (pc := 34) dX1_beginAnew_34 ?_
      refine g_iast (pc := 35) dX1_beginAnew_35 (m_at2 hw) (by omega) ?_
      refine G.eqw (m_set2 hw) ?_
      refine g_aload_n (i := 0) (pc := 36) dX1_beginAnew_36 rfl rfl ?_
      refine g_getf (pc := 37) f_X1_18 dX1_beginAnew_37 (m_at0 hw) rfl ?_
      refine g_iload_n (i := 1) (pc := 40) dX1_beginAnew_40 rfl rfl ?_
      refine g_iconst (pc := 41) dX1_beginAnew_41 ?_
      refine g_iast (pc := 42) dX1_beginAnew_42 (m_at3 hw) (by omega) ?_
      refine G.eqw (m_set3 hw) ?_
      refine g_iinc (pc := 43) dX1_beginAnew_43 rfl (by decide) rfl ?_
      simp only [List.set_cons_succ, List.set_cons_zero]
      refine g_goto (tgt := 23) (pc := 46) dX1_beginAnew_46 (by decide) ?_
      refine G.eqw (congrArg (fun f => setM w a ((fun j => if j < 64 then (-1) else fr j), f, (va_up (fun j => if j < k then 0 else va j) ((k : Int)).toNat 0), pr, bg, ea, co, fa, te, lo)) (fil_up us 0 k)) ?_
      refine G.eqw (congrArg (fun f => setM w a ((fun j => if j < 64 then (-1) else fr j), (fun j => if j < (k + 1) then 0 else us j), f, pr, bg, ea, co, fa, te, lo)) (fil_up va 0 k)) ih
  · intro k hk ih
    show G _ _ _ _ _ _ _ _ _ _ _
    refine g_iload_n (i := 1) (pc := 2) dX1_beginAnew_2 rfl rfl ?_
    refine g_bipush (pc := 3) dX1_beginAnew_3 (by decide) ?_
    refine g_c_ge (tgt := 21) (pc := 5) dX1_beginAnew_5 (by omega) (by decide) (fun c5 => absurd c5 (by omega)) (fun c5 => ?_)
    refine g_aload_n (i := 0) (pc := 8) dX1_beginAnew_8 rfl rfl ?_
    refine g_getf (pc := 9) f_X1_9 dX1_beginAnew_9 (m_at0 hw) rfl ?_
    refine g_iload_n (i := 1) (pc := 12) dX1_beginAnew_12 rfl rfl ?_
    refine g_iconst (pc := 13) dX1_beginAnew_13 ?_
    refine g_iast (pc := 14) dX1_beginAnew_14 (m_at1 hw) (by omega) ?_
    refine G.eqw (m_set1 hw) ?_
    refine g_iinc (pc := 15) dX1_beginAnew_15 rfl (by decide) rfl ?_
    simp only [List.set_cons_succ, List.set_cons_zero]
    refine g_goto (tgt := 2) (pc := 18) dX1_beginAnew_18 (by decide) ?_
    refine G.eqw (congrArg (fun f => setM w a (f, us, va, pr, bg, ea, co, fa, te, lo)) (fil_up fr (-1) k)) ih
set_option maxRecDepth 20000 in
set_option maxHeartbeats 4000000 in
theorem t_X1_copyFrom {w : List MC} {a b : Nat} {σ τ : SG} {al : Bool} (hw : okM w a) (hi : Inv σ) (hb : rdM w b (mem τ)) (hj : Inv τ) (hd : b + 3 < a ∨ a + 3 < b) : GM M_X1_copyFrom al [vR a, vR b] (setM w a (mem σ)) 0 0 (dt none (setM w a (mem τ))) := by
  show G _ none _ _ 0 [some (vR a), some (vR b)] [] _ _ _ _
  refine g_aload_n (i := 1) (pc := 0) dX1_copyFrom_0 rfl rfl ?_
  refine g_getf (pc := 1) f_X1_9 dX1_copyFrom_1 (rd_at0 hb hd) rfl ?_
  refine g_iconst (pc := 4) dX1_copyFrom_4 ?_
  refine g_aload_n (i := 0) (pc := 5) dX1_copyFrom_5 rfl rfl ?_
  refine g_getf (pc := 6) f_X1_9 dX1_copyFrom_6 (m_at0 hw) rfl ?_
  refine g_iconst (pc := 9) dX1_copyFrom_9 ?_
  refine g_bipush (pc := 10) dX1_copyFrom_10 (by decide) ?_
  refine g_copy (pc := 12) (k := 64) l_X1_47 w_ac1 w_ac2 w_ac3 dX1_copyFrom_12 (rd_at1 hb hd) (m_at1 hw) rfl (by decide) (Nat.le_of_ble_eq_true rfl) (Nat.le_of_ble_eq_true rfl) ?_
  refine G.eqw (m_set1 hw) ?_
  refine g_aload_n (i := 1) (pc := 15) dX1_copyFrom_15 rfl rfl ?_
  refine g_getf (pc := 16) f_X1_15 dX1_copyFrom_16 (rd_at0 hb hd) rfl ?_
  refine g_iconst (pc := 19) dX1_copyFrom_19 ?_
  refine g_aload_n (i := 0) (pc := 20) dX1_copyFrom_20 rfl rfl ?_
  refine g_getf (pc := 21) f_X1_15 dX1_copyFrom_21 (m_at0 hw) rfl ?_
  refine g_iconst (pc := 24) dX1_copyFrom_24 ?_
  refine g_bipush (pc := 25) dX1_copyFrom_25 (by decide) ?_
  refine g_copy (pc := 27) (k := 32) l_X1_47 w_ac1 w_ac2 w_ac3 dX1_copyFrom_27 (rd_at2 hb hd) (m_at2 hw) rfl (by decide) (Nat.le_of_ble_eq_true rfl) (Nat.le_of_ble_eq_true rfl) ?_
  refine G.eqw (m_set2 hw) ?_
  refine g_aload_n (i := 1) (pc := 30) dX1_copyFrom_30 rfl rfl ?_
  refine g_getf (pc := 31) f_X1_18 dX1_copyFrom_31 (rd_at0 hb hd) rfl ?_
  refine g_iconst (pc := 34) dX1_copyFrom_34 ?_
  refine g_aload_n (i := 0) (pc := 35) dX1_copyFrom_35 rfl rfl ?_
  refine g_getf (pc := 36) f_X1_18 dX1_copyFrom_36 (m_at0 hw) rfl ?_
  refine g_iconst (pc := 39) dX1_copyFrom_39 ?_
  refine g_bipush (pc := 40) dX1_copyFrom_40 (by decide) ?_
  refine g_copy (pc := 42) (k := 32) l_X1_47 w_ac1 w_ac2 w_ac3 dX1_copyFrom_42 (rd_at3 hb hd) (m_at3 hw) rfl (by decide) (Nat.le_of_ble_eq_true rfl) (Nat.le_of_ble_eq_true rfl) ?_
  refine G.eqw (m_set3 hw) ?_
  refine g_aload_n (i := 0) (pc := 45) dX1_copyFrom_45 rfl rfl ?_
  refine g_aload_n (i := 1) (pc := 46) dX1_copyFrom_46 rfl rfl ?_
  refine g_getf (pc := 47) f_X1_24 dX1_copyFrom_47 (rd_at0 hb hd) rfl ?_
  refine g_put (pc := 50) ft_X1_24 dX1_copyFrom_50 (m_at0 hw) (Nat.le_of_ble_eq_true rfl) (fun _ => rfl) (fun _ => rfl) (fun h => nomatch h) ?_
  refine G.eqw (m_put3 hw) ?_
  refine g_aload_n (i := 0) (pc := 53) dX1_copyFrom_53 rfl rfl ?_
  refine g_aload_n (i := 1) (pc := 54) dX1_copyFrom_54 rfl rfl ?_
  refine g_getf (pc := 55) f_X1_28 dX1_copyFrom_55 (rd_at0 hb hd) rfl ?_
  refine g_put (pc := 58) ft_X1_28 dX1_copyFrom_58 (m_at0 hw) (Nat.le_of_ble_eq_true rfl) (fun _ => rfl) (fun _ => rfl) (fun h => nomatch h) ?_
  refine G.eqw (m_put4 hw) ?_
  refine g_aload_n (i := 0) (pc := 61) dX1_copyFrom_61 rfl rfl ?_
  refine g_aload_n (i := 1) (pc := 62) dX1_copyFrom_62 rfl rfl ?_
  refine g_getf (pc := 63) f_X1_31 dX1_copyFrom_63 (rd_at0 hb hd) rfl ?_
  have z9 := hj.2.2.2.2.2.2.2.2.1
  refine G.eqS (v' := vI (s_ea τ)) rfl ?_
  refine g_put (pc := 66) ft_X1_31 dX1_copyFrom_66 (m_at0 hw) (Nat.le_of_ble_eq_true rfl) (g_zn (by omega)) (g_zf (by omega)) (fun h => nomatch h) ?_
  refine G.eqw (m_put5 hw) ?_
  refine g_aload_n (i := 0) (pc := 69) dX1_copyFrom_69 rfl rfl ?_
  refine g_aload_n (i := 1) (pc := 70) dX1_copyFrom_70 rfl rfl ?_
  refine g_getf (pc := 71) f_X1_35 dX1_copyFrom_71 (rd_at0 hb hd) rfl ?_
  refine g_put (pc := 74) ft_X1_35 dX1_copyFrom_74 (m_at0 hw) (Nat.le_of_ble_eq_true rfl) (fun _ => rfl) (fun _ => rfl) (fun h => nomatch h) ?_
  refine G.eqw (m_put6 hw) ?_
  refine g_aload_n (i := 0) (pc := 77) dX1_copyFrom_77 rfl rfl ?_
  refine g_aload_n (i := 1) (pc := 78) dX1_copyFrom_78 rfl rfl ?_
  refine g_getf (pc := 79) f_X1_38 dX1_copyFrom_79 (rd_at0 hb hd) rfl ?_
  refine g_put (pc := 82) ft_X1_38 dX1_copyFrom_82 (m_at0 hw) (Nat.le_of_ble_eq_true rfl) (fun _ => rfl) (fun _ => rfl) (fun h => nomatch h) ?_
  refine G.eqw (m_put7 hw) ?_
  refine g_aload_n (i := 0) (pc := 85) dX1_copyFrom_85 rfl rfl ?_
  refine g_aload_n (i := 1) (pc := 86) dX1_copyFrom_86 rfl rfl ?_
  refine g_getf (pc := 87) f_X1_41 dX1_copyFrom_87 (rd_at0 hb hd) rfl ?_
  refine g_put (pc := 90) ft_X1_41 dX1_copyFrom_90 (m_at0 hw) (Nat.le_of_ble_eq_true rfl) (fun _ => rfl) (fun _ => rfl) (fun h => nomatch h) ?_
  refine G.eqw (m_put8 hw) ?_
  refine g_aload_n (i := 0) (pc := 93) dX1_copyFrom_93 rfl rfl ?_
  refine g_aload_n (i := 1) (pc := 94) dX1_copyFrom_94 rfl rfl ?_
  refine g_getf (pc := 95) f_X1_44 dX1_copyFrom_95 (rd_at0 hb hd) rfl ?_
  refine g_put (pc := 98) ft_X1_44 dX1_copyFrom_98 (m_at0 hw) (Nat.le_of_ble_eq_true rfl) (fun _ => rfl) (fun _ => rfl) (fun h => nomatch h) ?_
  refine G.eqw (m_put9 hw) ?_
  refine g_vret (pc := 101) rfl dX1_copyFrom_101 (fun h => h) ?_
  refine dt_v ?_
  have e1 : va_cpy (mem τ).1 (mem σ).1 0 0 64 = (mem τ).1 := cpy_all (fun k hk => by show s_fr σ k = s_fr τ k; rw [hi.2.1 k hk, hj.2.1 k hk])
  have e2 : va_cpy (mem τ).2.1 (mem σ).2.1 0 0 32 = (mem τ).2.1 := cpy_all (fun k hk => by show uses (s_fr σ) k = uses (s_fr τ) k; rw [us_out hi hk, us_out hj hk])
  have e3 : va_cpy (mem τ).2.2.1 (mem σ).2.2.1 0 0 32 = (mem τ).2.2.1 := cpy_all (fun k hk => by show s_va σ k = s_va τ k; rw [hi.2.2.2.2.2.1 k hk, hj.2.2.2.2.2.1 k hk])
  show setM w a (va_cpy (mem τ).1 (mem σ).1 0 0 64, va_cpy (mem τ).2.1 (mem σ).2.1 0 0 32, va_cpy (mem τ).2.2.1 (mem σ).2.2.1 0 0 32, _) = _
  rw [e1, e2, e3]
  rfl
set_option maxRecDepth 20000 in
set_option maxHeartbeats 4000000 in
theorem t_X1_init {w : List MC} (hl : w.length + 4 < SCR) : GM M_X1_init true [vR w.length] (w ++ [cObj 1 nul1]) 3 128 (dt none (w ++ memC w.length (mem s_new))) := by
  show G _ none _ _ 0 [some (vR w.length)] [] _ _ _ _
  have hlen : ∀ l : List MC, (w ++ l).length = w.length + l.length := fun l => List.length_append
  refine g_aload_n (i := 0) (pc := 0) dX1_init_0 rfl rfl ?_
  refine g_obj (pc := 1) l_X1_3 w_oi1 w_oi2 dX1_init_1 (by decide) (Nat.le_of_ble_eq_true rfl) ?_
  refine g_aload_n (i := 0) (pc := 4) dX1_init_4 rfl rfl ?_
  refine g_bipush (pc := 5) dX1_init_5 (by decide) ?_
  refine g_newI (bc := 2) (bs := 64) (n := 64) (pc := 7) dX1_init_7 (by decide) rfl (by decide) (by rw [hlen]; simp only [List.length_cons, List.length_nil]; unfold SCR at hl ⊢; omega) ?_
  refine G.eqw (w' := w ++ [cObj 1 [vN, vN, vN, vI 0, vI 0, vI 0, vI 0, vI 0, vI 0, vI 0], cArr 0 64 fun _ => 0]) (List.append_assoc ..) ?_
  refine G.eqS (congrArg (fun z => vR z) (hlen _)) ?_
  refine G.eqS (v' := vR (w.length + 1)) rfl ?_
  refine g_put (pc := 9) ft_X1_9 dX1_init_9 (app_get w _ 0) (Nat.le_of_ble_eq_true rfl) (fun _ => rfl) (fun _ => rfl) (fun _ => rfl) ?_
  refine G.eqw (app_set w _ 0 _) ?_
  show G _ _ _ _ _ _ _ (w ++ [cObj 1 [vR (w.length + 1), vN, vN, vI 0, vI 0, vI 0, vI 0, vI 0, vI 0, vI 0], cArr 0 64 fun _ => 0]) _ _ _
  refine g_aload_n (i := 0) (pc := 12) dX1_init_12 rfl rfl ?_
  refine g_bipush (pc := 13) dX1_init_13 (by decide) ?_
  refine g_newI (bc := 1) (bs := 32) (n := 32) (pc := 15) dX1_init_15 (by decide) rfl (by decide) (by rw [hlen]; simp only [List.length_cons, List.length_nil]; unfold SCR at hl ⊢; omega) ?_
  refine G.eqw (w' := w ++ [cObj 1 [vR (w.length + 1), vN, vN, vI 0, vI 0, vI 0, vI 0, vI 0, vI 0, vI 0], cArr 0 64 fun _ => 0, cArr 0 32 fun _ => 0]) (List.append_assoc ..) ?_
  refine G.eqS (congrArg (fun z => vR z) (hlen _)) ?_
  refine G.eqS (v' := vR (w.length + 2)) rfl ?_
  refine g_put (pc := 17) ft_X1_15 dX1_init_17 (app_get w _ 0) (Nat.le_of_ble_eq_true rfl) (fun _ => rfl) (fun _ => rfl) (fun _ => rfl) ?_
  refine G.eqw (app_set w _ 0 _) ?_
  show G _ _ _ _ _ _ _ (w ++ [cObj 1 [vR (w.length + 1), vR (w.length + 2), vN, vI 0, vI 0, vI 0, vI 0, vI 0, vI 0, vI 0], cArr 0 64 fun _ => 0, cArr 0 32 fun _ => 0]) _ _ _
  refine g_aload_n (i := 0) (pc := 20) dX1_init_20 rfl rfl ?_
  refine g_bipush (pc := 21) dX1_init_21 (by decide) ?_
  refine g_newI (bc := 0) (bs := 0) (n := 32) (pc := 23) dX1_init_23 (by decide) rfl (by decide) (by rw [hlen]; simp only [List.length_cons, List.length_nil]; unfold SCR at hl ⊢; omega) ?_
  refine G.eqw (w' := w ++ [cObj 1 [vR (w.length + 1), vR (w.length + 2), vN, vI 0, vI 0, vI 0, vI 0, vI 0, vI 0, vI 0], cArr 0 64 fun _ => 0, cArr 0 32 fun _ => 0, cArr 0 32 fun _ => 0]) (List.append_assoc ..) ?_
  refine G.eqS (congrArg (fun z => vR z) (hlen _)) ?_
  refine G.eqS (v' := vR (w.length + 3)) rfl ?_
  refine g_put (pc := 25) ft_X1_18 dX1_init_25 (app_get w _ 0) (Nat.le_of_ble_eq_true rfl) (fun _ => rfl) (fun _ => rfl) (fun _ => rfl) ?_
  refine G.eqw (app_set w _ 0 _) ?_
  show G _ _ _ _ _ _ _ (w ++ [cObj 1 [vR (w.length + 1), vR (w.length + 2), vR (w.length + 3), vI 0, vI 0, vI 0, vI 0, vI 0, vI 0, vI 0], cArr 0 64 fun _ => 0, cArr 0 32 fun _ => 0, cArr 0 32 fun _ => 0]) _ _ _
  refine g_aload_n (i := 0) (pc := 28) dX1_init_28 rfl rfl ?_
  have e9 : w ++ [cObj 1 [vR (w.length + 1), vR (w.length + 2), vR (w.length + 3), vI 0, vI 0, vI 0, vI 0, vI 0, vI 0, vI 0], cArr 0 64 fun _ => 0, cArr 0 32 fun _ => 0, cArr 0 32 fun _ => 0] = setM (w ++ memC w.length (fun _ => 0, fun _ => 0, fun _ => 0, 0, 0, 0, 0, 0, 0, 0)) w.length (fun _ => 0, fun _ => 0, fun _ => 0, 0, 0, 0, 0, 0, 0, 0) := by rw [memC_set]; rfl
  refine G.eqw e9 ?_
  have hw : okM (w ++ memC w.length (fun _ => 0, fun _ => 0, fun _ => 0, 0, 0, 0, 0, 0, 0, 0)) w.length := by
    unfold okM
    rw [hlen]
    simp only [memC, List.length_cons, List.length_nil]
    omega
  refine g_v0 (pc := 29) okV_X1_beginAnew rfl l_X1_21 dX1_init_29 (m_at0 hw) hc_1 (by decide) (by decide) (Nat.le_of_ble_eq_true rfl) (t_X1_beginAnew hw ⟨fun _ _ => rfl, fun _ _ => rfl, fun _ _ => rfl⟩) (by simp only [m_len]) ?_
  refine G.eqw (memC_set _ _ _) ?_
  refine g_vret (pc := 32) rfl dX1_init_32 (fun h => h) ?_
  exact dt_v rfl
