/-! WHAT IS MADE AT THE START (rows of claims/whole/work/parts/32.made, but for the last ones) -/
section MM9
/-- memories in a row -/
def memsC (a : Nat) : Nat → List MC
  | 0 => []
  | k + 1 => memsC a k ++ memC (a + 4 * k) (mem s_new)
theorem memC_len (a : Nat) (m : MSm) : (memC a m).length = 4 := rfl
theorem memsC_len (a : Nat) : ∀ k, (memsC a k).length = 4 * k
  | 0 => rfl
  | k + 1 => by rw [memsC, List.length_append, memsC_len a k, memC_len]; omega
def rgC (a k j : Nat) : Option Nat := if j < k then some (a + 4 * j) else none
theorem rgC_0 (a : Nat) : (fun _ : Nat => (none : Option Nat)) = rgC a 0 := by
  funext j
  unfold rgC
  rw [if_neg (Nat.not_lt_zero j)]
theorem rgC_s (a k : Nat) : va_up (rgC a k) ((k : Int)).toNat (some (a + 4 * k)) = rgC a (k + 1) := by
  funext j
  unfold va_up rgC
  by_cases q : j = ((k : Int)).toNat
  · rw [if_pos q, if_pos (by omega), show j = k by omega]
  · rw [if_neg q]
    by_cases z : j < k
    · rw [if_pos z, if_pos (by omega)]
    · rw [if_neg z, if_neg (by omega)]
def hisC (a k : Nat) : List MC := [cObj 0 [vR (a + 1), vI 0, vI 0], cRef 14 (rgC (a + 2) k)] ++ memsC (a + 2) k
theorem hisC_len (a k : Nat) : (hisC a k).length = 2 + 4 * k := by
  unfold hisC
  rw [List.length_append, memsC_len]
  rfl
theorem app_len (w l : List MC) : (w ++ l).length = w.length + l.length := List.length_append
theorem app_at {w l : List MC} {i j : Nat} (h : j = w.length + i) : (w ++ l)[j]? = l[i]? := by rw [h]; exact app_get w l i
set_option maxRecDepth 20000 in
set_option maxHeartbeats 1000000 in
theorem t_X2_init {w : List MC} (hl : w.length + 2 < SCR) : GM M_X2_init true [vR w.length] (w ++ [cObj 2 [vN, vI 0]]) 1 100 (dt none (w ++ [cObj 2 [vR (w.length + 1), vI 0], cArr 1 100 fun _ => 0])) := by
  show G _ none _ _ 0 [some (vR w.length)] [] _ _ _ _
  refine g_aload_n (i := 0) (pc := 0) dX2_init_0 rfl rfl ?_
  refine g_obj (pc := 1) l_X2_3 w_oi1 w_oi2 dX2_init_1 (by decide) (Nat.le_of_ble_eq_true rfl) ?_
  refine g_aload_n (i := 0) (pc := 4) dX2_init_4 rfl rfl ?_
  refine g_bipush (pc := 5) dX2_init_5 (by decide) ?_
  refine g_newC (bc := 0) (bs := 0) (n := 100) (pc := 7) dX2_init_7 (by decide) rfl (by decide) (by rw [app_len]; simp only [List.length_cons, List.length_nil]; omega) ?_
  refine G.eqw (w' := w ++ [cObj 2 [vN, vI 0], cArr 1 100 fun _ => 0]) (List.append_assoc ..) ?_
  refine G.eqS (congrArg (fun z => vR z) (app_len _ _)) ?_
  refine G.eqS (v' := vR (w.length + 1)) rfl ?_
  refine g_put (pc := 9) ft_X2_9 dX2_init_9 (app_get w _ 0) (Nat.le_of_ble_eq_true rfl) (fun _ => rfl) (fun _ => rfl) (fun _ => rfl) ?_
  refine G.eqw (app_set w _ 0 _) ?_
  refine g_vret (pc := 12) rfl dX2_init_12 (fun h => h) ?_
  exact dt_v rfl
set_option maxRecDepth 20000 in
set_option maxHeartbeats 1000000 in
theorem t_X0_init {w : List MC} (hl : w.length + 100 < SCR) : GM M_X0_init true [vR w.length] (w ++ [cObj 0 [vN, vI 0, vI 0]]) 57 1946 (dt none (w ++ hisC w.length 14)) := by
  show G _ none _ _ 0 [some (vR w.length), none] [] _ _ _ _
  refine g_aload_n (i := 0) (pc := 0) dX0_init_0 rfl rfl ?_
  refine g_obj (pc := 1) l_X0_3 w_oi1 w_oi2 dX0_init_1 (by decide) (Nat.le_of_ble_eq_true rfl) ?_
  refine g_aload_n (i := 0) (pc := 4) dX0_init_4 rfl rfl ?_
  refine g_bipush (pc := 5) dX0_init_5 (by decide) ?_
  refine g_newq (bc := 56) (bs := 1932) (n := 14) (pc := 7) cl_X0_9 dX0_init_7 (by decide) rfl (by decide) (by rw [app_len]; simp only [List.length_cons, List.length_nil]; omega) ?_
  refine G.eqw (w' := w ++ [cObj 0 [vN, vI 0, vI 0], cRef 14 fun _ => none]) (List.append_assoc ..) ?_
  refine G.eqS (congrArg (fun z => vR z) (app_len _ _)) ?_
  refine G.eqS (v' := vR (w.length + 1)) rfl ?_
  refine g_put (pc := 10) ft_X0_11 dX0_init_10 (app_get w _ 0) (Nat.le_of_ble_eq_true rfl) (fun _ => rfl) (fun _ => rfl) (fun _ => rfl) ?_
  refine G.eqw (app_set w _ 0 _) ?_
  refine G.eqw (w' := w ++ hisC w.length 0) (congrArg (fun z => w ++ [cObj 0 [vR (w.length + 1), vI 0, vI 0], cRef 14 z]) (rgC_0 (w.length + 2))) ?_
  refine g_iconst (pc := 13) dX0_init_13 ?_
  refine g_istore_n (i := 1) (pc := 14) dX0_init_14 rfl (by decide) rfl ?_
  simp only [List.set_cons_succ, List.set_cons_zero]
  refine lp_up (P := fun k => G M_X0_init none true true 15 [some (vR w.length), some (vI k)] [] (w ++ hisC w.length k) (4 * (14 - k)) (138 * (14 - k)) (dt none (w ++ hisC w.length 14))) 14 ?_ ?_ 0 (Nat.zero_le _)
  · show G _ _ _ _ _ _ _ _ _ _ _
    refine g_iload_n (i := 1) (pc := 15) dX0_init_15 rfl rfl ?_
    refine g_bipush (pc := 16) dX0_init_16 (by decide) ?_
    refine g_c_ge (tgt := 40) (pc := 18) dX0_init_18 (by omega) (by decide) (fun c18 => ?_) (fun c18 => absurd c18 (by omega))
    refine g_vret (pc := 40) rfl dX0_init_40 (fun h => h) ?_
    exact dt_v rfl
  · intro k hk ih
    show G _ _ _ _ _ _ _ _ _ _ _
    have e1 : (w ++ hisC w.length k).length = w.length + 2 + 4 * k := by rw [app_len, hisC_len]; omega
    refine g_iload_n (i := 1) (pc := 15) dX0_init_15 rfl rfl ?_
    refine g_bipush (pc := 16) dX0_init_16 (by decide) ?_
    refine g_c_ge (tgt := 40) (pc := 18) dX0_init_18 (by omega) (by decide) (fun c18 => absurd c18 (by omega)) (fun c18 => ?_)
    refine g_aload_n (i := 0) (pc := 21) dX0_init_21 rfl rfl ?_
    refine g_getf (pc := 22) f_X0_11 dX0_init_22 (app_get w _ 0) rfl ?_
    refine g_iload_n (i := 1) (pc := 25) dX0_init_25 rfl rfl ?_
    refine G.bud (bc := (4 * (13 - k) + 3) + 1) (bs := (138 * (13 - k) + 128) + 10) ?_ (by omega) (by omega)
    refine g_new (pc := 26) n_X0_9 dX0_init_26 (by rw [e1]; omega) ?_
    refine g_dup (pc := 29) dX0_init_29 (fun z h => nomatch h) ?_
    refine g_callI (pc := 30) (as := []) (bc' := 3) (bs' := 128) okI_X1_init rfl l_X0_17 dX0_init_30 rfl (Nat.le_of_ble_eq_true rfl) (by decide) (Nat.le_of_ble_eq_true rfl) ⟨by omega, by omega⟩ (t_X1_init (w := w ++ hisC w.length k) (by rw [e1]; omega)) (fun E w' h => nomatch h.1) (fun _ r w' h => by rw [h.2]; simp only [app_len, memC_len, List.length_cons, List.length_nil]) (fun r w' h => ?_)
    obtain ⟨hr9, rfl⟩ := h
    obtain rfl := Sum.inl.inj hr9
    simp only [Option.toList, List.nil_append]
    refine G.bud (bc := 4 * (13 - k)) (bs := 138 * (13 - k)) ?_ (by omega) (by omega)
    refine g_aast (pc := 33) (f := rgC (w.length + 2) k) (n := 14) dX0_init_33 ?_ (by omega) (app_get (w ++ hisC w.length k) _ 0) ?_
    · rw [List.append_assoc]
      exact app_get w _ 1
    · refine G.eqw (w' := w ++ hisC w.length (k + 1)) ?_ ?_
      · rw [List.append_assoc, app_set w _ 1, e1, rgC_s (w.length + 2) k]
        rfl
      · refine g_iinc (pc := 34) dX0_init_34 rfl (by decide) rfl ?_
        simp only [List.set_cons_succ, List.set_cons_zero]
        refine g_goto (tgt := 15) (pc := 37) dX0_init_37 (by decide) ?_
        refine G.bud ih (by omega) (by omega)
def W79 : List MC := [cObj 3 [vR 1, vR 3, vR 7, vR 11, vR 69, vR 78]] ++ ([cObj 2 [vR 2, vI 0], cArr 1 100 fun _ => 0] ++ (memC 3 (mem s_new) ++ (memC 7 (mem s_new) ++ (hisC 11 14 ++ ([cRef 2 (rgC 70 2)] ++ (memC 70 (mem s_new) ++ (memC 74 (mem s_new) ++ [cArr 2 2 fun _ => 0])))))))
set_option maxRecDepth 20000 in
set_option maxHeartbeats 1000000 in
theorem t_X3_init : GM M_X3_init true [vR 0] [cObj 3 [vN, vN, vN, vN, vN, vN]] 78 2607 (dt none W79) := by
  show G _ none _ _ 0 [some (vR 0), none] [] _ _ _ _
  refine g_aload_n (i := 0) (pc := 0) dX3_init_0 rfl rfl ?_
  refine g_obj (pc := 1) l_X3_1 w_oi1 w_oi2 dX3_init_1 (by decide) (Nat.le_of_ble_eq_true rfl) ?_
  refine g_aload_n (i := 0) (pc := 4) dX3_init_4 rfl rfl ?_
  refine g_new (bc := 77) (bs := 2605) (n := 2) (pc := 5) n_X3_7 dX3_init_5 (Nat.le_of_ble_eq_true rfl) ?_
  refine g_dup (pc := 8) dX3_init_8 (fun z h => nomatch h) ?_
  refine G.eqw (w' := [cObj 3 [vN, vN, vN, vN, vN, vN]] ++ [cObj 2 [vN, vI 0]]) rfl ?_
  refine g_callIN (pc := 9) (as := []) (bc' := 1) (bs' := 100) (host := RX3) okI_X2_init rfl (by decide) dX3_init_9 rfl (Nat.le_of_ble_eq_true rfl) (by decide) (Nat.le_of_ble_eq_true rfl) ⟨by decide, by decide⟩ (t_X2_init (w := [cObj 3 [vN, vN, vN, vN, vN, vN]]) (Nat.le_of_ble_eq_true rfl)) (fun E w' h => nomatch h.1) (fun _ r w' h => by rw [h.2]; rfl) (fun r w' h => ?_)
  obtain ⟨hr9, rfl⟩ := h
  obtain rfl := Sum.inl.inj hr9
  simp only [Option.toList, List.nil_append]
  refine G.bud (bc := 76) (bs := 2505) ?_ (by decide) (by decide)
  refine G.eqw (w' := ([cObj 3 [vN, vN, vN, vN, vN, vN]] ++ [cObj 2 [vR 2, vI 0], cArr 1 100 fun _ => 0])) rfl ?_
  refine g_put (pc := 12) ft_X3_10 dX3_init_12 (show (([cObj 3 [vN, vN, vN, vN, vN, vN]] ++ [cObj 2 [vR 2, vI 0], cArr 1 100 fun _ => 0]))[0]? = some (cObj 3 [vN, vN, vN, vN, vN, vN]) from rfl) (Nat.le_of_ble_eq_true rfl) (fun _ => rfl) (fun _ => rfl) (fun _ => rfl) ?_
  refine G.eqw (w' := ([cObj 3 [vR 1, vN, vN, vN, vN, vN]] ++ [cObj 2 [vR 2, vI 0], cArr 1 100 fun _ => 0])) rfl ?_
  refine g_aload_n (i := 0) (pc := 15) dX3_init_15 rfl rfl ?_
  refine g_new (bc := 75) (bs := 2495) (n := 10) (pc := 16) n_X3_16 dX3_init_16 (Nat.le_of_ble_eq_true rfl) ?_
  refine g_dup (pc := 19) dX3_init_19 (fun z h => nomatch h) ?_
  refine G.eqw (w' := ([cObj 3 [vR 1, vN, vN, vN, vN, vN]] ++ [cObj 2 [vR 2, vI 0], cArr 1 100 fun _ => 0]) ++ [cObj 1 [vN, vN, vN, vI 0, vI 0, vI 0, vI 0, vI 0, vI 0, vI 0]]) rfl ?_
  refine g_callI (pc := 20) (as := []) (bc' := 3) (bs' := 128) okI_X1_init rfl l_X3_18 dX3_init_20 rfl (Nat.le_of_ble_eq_true rfl) (by decide) (Nat.le_of_ble_eq_true rfl) ⟨by decide, by decide⟩ (t_X1_init (w := ([cObj 3 [vR 1, vN, vN, vN, vN, vN]] ++ [cObj 2 [vR 2, vI 0], cArr 1 100 fun _ => 0])) (Nat.le_of_ble_eq_true rfl)) (fun E w' h => nomatch h.1) (fun _ r w' h => by rw [h.2]; rfl) (fun r w' h => ?_)
  obtain ⟨hr9, rfl⟩ := h
  obtain rfl := Sum.inl.inj hr9
  simp only [Option.toList, List.nil_append]
  refine G.bud (bc := 72) (bs := 2367) ?_ (by decide) (by decide)
  refine G.eqw (w' := ([cObj 3 [vR 1, vN, vN, vN, vN, vN]] ++ ([cObj 2 [vR 2, vI 0], cArr 1 100 fun _ => 0] ++ memC 3 (mem s_new)))) rfl ?_
  refine g_put (pc := 23) ft_X3_19 dX3_init_23 (show (([cObj 3 [vR 1, vN, vN, vN, vN, vN]] ++ ([cObj 2 [vR 2, vI 0], cArr 1 100 fun _ => 0] ++ memC 3 (mem s_new))))[0]? = some (cObj 3 [vR 1, vN, vN, vN, vN, vN]) from rfl) (Nat.le_of_ble_eq_true rfl) (fun _ => rfl) (fun _ => rfl) (fun _ => rfl) ?_
  refine G.eqw (w' := ([cObj 3 [vR 1, vR 3, vN, vN, vN, vN]] ++ ([cObj 2 [vR 2, vI 0], cArr 1 100 fun _ => 0] ++ memC 3 (mem s_new)))) rfl ?_
  refine g_aload_n (i := 0) (pc := 26) dX3_init_26 rfl rfl ?_
  refine g_new (bc := 71) (bs := 2357) (n := 10) (pc := 27) n_X3_16 dX3_init_27 (Nat.le_of_ble_eq_true rfl) ?_
  refine g_dup (pc := 30) dX3_init_30 (fun z h => nomatch h) ?_
  refine G.eqw (w' := ([cObj 3 [vR 1, vR 3, vN, vN, vN, vN]] ++ ([cObj 2 [vR 2, vI 0], cArr 1 100 fun _ => 0] ++ memC 3 (mem s_new))) ++ [cObj 1 [vN, vN, vN, vI 0, vI 0, vI 0, vI 0, vI 0, vI 0, vI 0]]) rfl ?_
  refine g_callI (pc := 31) (as := []) (bc' := 3) (bs' := 128) okI_X1_init rfl l_X3_18 dX3_init_31 rfl (Nat.le_of_ble_eq_true rfl) (by decide) (Nat.le_of_ble_eq_true rfl) ⟨by decide, by decide⟩ (t_X1_init (w := ([cObj 3 [vR 1, vR 3, vN, vN, vN, vN]] ++ ([cObj 2 [vR 2, vI 0], cArr 1 100 fun _ => 0] ++ memC 3 (mem s_new)))) (Nat.le_of_ble_eq_true rfl)) (fun E w' h => nomatch h.1) (fun _ r w' h => by rw [h.2]; rfl) (fun r w' h => ?_)
  obtain ⟨hr9, rfl⟩ := h
  obtain rfl := Sum.inl.inj hr9
  simp only [Option.toList, List.nil_append]
  refine G.bud (bc := 68) (bs := 2229) ?_ (by decide) (by decide)
  refine G.eqw (w' := ([cObj 3 [vR 1, vR 3, vN, vN, vN, vN]] ++ ([cObj 2 [vR 2, vI 0], cArr 1 100 fun _ => 0] ++ (memC 3 (mem s_new) ++ memC 7 (mem s_new))))) rfl ?_
  refine g_put (pc := 34) ft_X3_23 dX3_init_34 (show (([cObj 3 [vR 1, vR 3, vN, vN, vN, vN]] ++ ([cObj 2 [vR 2, vI 0], cArr 1 100 fun _ => 0] ++ (memC 3 (mem s_new) ++ memC 7 (mem s_new)))))[0]? = some (cObj 3 [vR 1, vR 3, vN, vN, vN, vN]) from rfl) (Nat.le_of_ble_eq_true rfl) (fun _ => rfl) (fun _ => rfl) (fun _ => rfl) ?_
  refine G.eqw (w' := ([cObj 3 [vR 1, vR 3, vR 7, vN, vN, vN]] ++ ([cObj 2 [vR 2, vI 0], cArr 1 100 fun _ => 0] ++ (memC 3 (mem s_new) ++ memC 7 (mem s_new))))) rfl ?_
  refine g_aload_n (i := 0) (pc := 37) dX3_init_37 rfl rfl ?_
  refine g_new (bc := 67) (bs := 2226) (n := 3) (pc := 38) n_X3_26 dX3_init_38 (Nat.le_of_ble_eq_true rfl) ?_
  refine g_dup (pc := 41) dX3_init_41 (fun z h => nomatch h) ?_
  refine G.eqw (w' := ([cObj 3 [vR 1, vR 3, vR 7, vN, vN, vN]] ++ ([cObj 2 [vR 2, vI 0], cArr 1 100 fun _ => 0] ++ (memC 3 (mem s_new) ++ memC 7 (mem s_new)))) ++ [cObj 0 [vN, vI 0, vI 0]]) rfl ?_
  refine g_callI (pc := 42) (as := []) (bc' := 57) (bs' := 1946) okI_X0_init rfl l_X3_28 dX3_init_42 rfl (Nat.le_of_ble_eq_true rfl) (by decide) (Nat.le_of_ble_eq_true rfl) ⟨by decide, by decide⟩ (t_X0_init (w := ([cObj 3 [vR 1, vR 3, vR 7, vN, vN, vN]] ++ ([cObj 2 [vR 2, vI 0], cArr 1 100 fun _ => 0] ++ (memC 3 (mem s_new) ++ memC 7 (mem s_new))))) (Nat.le_of_ble_eq_true rfl)) (fun E w' h => nomatch h.1) (fun _ r w' h => by rw [h.2]; rfl) (fun r w' h => ?_)
  obtain ⟨hr9, rfl⟩ := h
  obtain rfl := Sum.inl.inj hr9
  simp only [Option.toList, List.nil_append]
  refine G.bud (bc := 10) (bs := 280) ?_ (by decide) (by decide)
  refine G.eqw (w' := ([cObj 3 [vR 1, vR 3, vR 7, vN, vN, vN]] ++ ([cObj 2 [vR 2, vI 0], cArr 1 100 fun _ => 0] ++ (memC 3 (mem s_new) ++ (memC 7 (mem s_new) ++ hisC 11 14))))) rfl ?_
  refine g_put (pc := 45) ft_X3_29 dX3_init_45 (show (([cObj 3 [vR 1, vR 3, vR 7, vN, vN, vN]] ++ ([cObj 2 [vR 2, vI 0], cArr 1 100 fun _ => 0] ++ (memC 3 (mem s_new) ++ (memC 7 (mem s_new) ++ hisC 11 14)))))[0]? = some (cObj 3 [vR 1, vR 3, vR 7, vN, vN, vN]) from rfl) (Nat.le_of_ble_eq_true rfl) (fun _ => rfl) (fun _ => rfl) (fun _ => rfl) ?_
  refine G.eqw (w' := ([cObj 3 [vR 1, vR 3, vR 7, vR 11, vN, vN]] ++ ([cObj 2 [vR 2, vI 0], cArr 1 100 fun _ => 0] ++ (memC 3 (mem s_new) ++ (memC 7 (mem s_new) ++ hisC 11 14))))) rfl ?_
  refine g_aload_n (i := 0) (pc := 48) dX3_init_48 rfl rfl ?_
  refine g_iconst (pc := 49) dX3_init_49 ?_
  refine g_newq (bc := 9) (bs := 278) (n := 2) (pc := 50) cl_X3_16 dX3_init_50 (by decide) rfl (by decide) (Nat.le_of_ble_eq_true rfl) ?_
  refine G.eqw (w' := ([cObj 3 [vR 1, vR 3, vR 7, vR 11, vN, vN]] ++ ([cObj 2 [vR 2, vI 0], cArr 1 100 fun _ => 0] ++ (memC 3 (mem s_new) ++ (memC 7 (mem s_new) ++ (hisC 11 14 ++ [cRef 2 (rgC 70 0)])))))) (Eq.trans (congrArg (fun z => ([cObj 3 [vR 1, vR 3, vR 7, vR 11, vN, vN]] ++ ([cObj 2 [vR 2, vI 0], cArr 1 100 fun _ => 0] ++ (memC 3 (mem s_new) ++ (memC 7 (mem s_new) ++ hisC 11 14)))) ++ [cRef 2 z]) (rgC_0 70)) rfl) ?_
  refine G.eqw (w' := ([cObj 3 [vR 1, vR 3, vR 7, vR 11, vN, vN]] ++ ([cObj 2 [vR 2, vI 0], cArr 1 100 fun _ => 0] ++ (memC 3 (mem s_new) ++ (memC 7 (mem s_new) ++ (hisC 11 14 ++ [cRef 2 (rgC 70 0)])))))) rfl ?_
  refine g_put (pc := 53) ft_X3_33 dX3_init_53 (show (([cObj 3 [vR 1, vR 3, vR 7, vR 11, vN, vN]] ++ ([cObj 2 [vR 2, vI 0], cArr 1 100 fun _ => 0] ++ (memC 3 (mem s_new) ++ (memC 7 (mem s_new) ++ (hisC 11 14 ++ [cRef 2 (rgC 70 0)]))))))[0]? = some (cObj 3 [vR 1, vR 3, vR 7, vR 11, vN, vN]) from rfl) (Nat.le_of_ble_eq_true rfl) (fun _ => rfl) (fun _ => rfl) (fun _ => rfl) ?_
  refine G.eqw (w' := ([cObj 3 [vR 1, vR 3, vR 7, vR 11, vR 69, vN]] ++ ([cObj 2 [vR 2, vI 0], cArr 1 100 fun _ => 0] ++ (memC 3 (mem s_new) ++ (memC 7 (mem s_new) ++ (hisC 11 14 ++ [cRef 2 (rgC 70 0)])))))) rfl ?_
  refine g_iconst (pc := 56) dX3_init_56 ?_
  refine g_istore_n (i := 1) (pc := 57) dX3_init_57 rfl (by decide) rfl ?_
  simp only [List.set_cons_succ, List.set_cons_zero]
  refine g_iload_n (i := 1) (pc := 58) dX3_init_58 rfl rfl ?_
  refine g_iconst (pc := 59) dX3_init_59 ?_
  refine g_c_ge (tgt := 82) (pc := 60) dX3_init_60 (by decide) (by decide) (fun c60 => absurd c60 (by decide)) (fun c60 => ?_)
  refine g_aload_n (i := 0) (pc := 63) dX3_init_63 rfl rfl ?_
  refine g_getf (pc := 64) f_X3_33 dX3_init_64 (show (([cObj 3 [vR 1, vR 3, vR 7, vR 11, vR 69, vN]] ++ ([cObj 2 [vR 2, vI 0], cArr 1 100 fun _ => 0] ++ (memC 3 (mem s_new) ++ (memC 7 (mem s_new) ++ (hisC 11 14 ++ [cRef 2 (rgC 70 0)]))))))[0]? = some (cObj 3 [vR 1, vR 3, vR 7, vR 11, vR 69, vN]) from rfl) rfl ?_
  refine g_iload_n (i := 1) (pc := 67) dX3_init_67 rfl rfl ?_
  refine g_new (bc := 8) (bs := 268) (n := 10) (pc := 68) n_X3_16 dX3_init_68 (Nat.le_of_ble_eq_true rfl) ?_
  refine g_dup (pc := 71) dX3_init_71 (fun z h => nomatch h) ?_
  refine G.eqw (w' := ([cObj 3 [vR 1, vR 3, vR 7, vR 11, vR 69, vN]] ++ ([cObj 2 [vR 2, vI 0], cArr 1 100 fun _ => 0] ++ (memC 3 (mem s_new) ++ (memC 7 (mem s_new) ++ (hisC 11 14 ++ [cRef 2 (rgC 70 0)]))))) ++ [cObj 1 [vN, vN, vN, vI 0, vI 0, vI 0, vI 0, vI 0, vI 0, vI 0]]) rfl ?_
  refine g_callI (pc := 72) (as := []) (bc' := 3) (bs' := 128) okI_X1_init rfl l_X3_18 dX3_init_72 rfl (Nat.le_of_ble_eq_true rfl) (by decide) (Nat.le_of_ble_eq_true rfl) ⟨by decide, by decide⟩ (t_X1_init (w := ([cObj 3 [vR 1, vR 3, vR 7, vR 11, vR 69, vN]] ++ ([cObj 2 [vR 2, vI 0], cArr 1 100 fun _ => 0] ++ (memC 3 (mem s_new) ++ (memC 7 (mem s_new) ++ (hisC 11 14 ++ [cRef 2 (rgC 70 0)])))))) (Nat.le_of_ble_eq_true rfl)) (fun E w' h => nomatch h.1) (fun _ r w' h => by rw [h.2]; rfl) (fun r w' h => ?_)
  obtain ⟨hr9, rfl⟩ := h
  obtain rfl := Sum.inl.inj hr9
  simp only [Option.toList, List.nil_append]
  refine G.bud (bc := 5) (bs := 140) ?_ (by decide) (by decide)
  refine G.eqw (w' := ([cObj 3 [vR 1, vR 3, vR 7, vR 11, vR 69, vN]] ++ ([cObj 2 [vR 2, vI 0], cArr 1 100 fun _ => 0] ++ (memC 3 (mem s_new) ++ (memC 7 (mem s_new) ++ (hisC 11 14 ++ ([cRef 2 (rgC 70 0)] ++ memC 70 (mem s_new)))))))) rfl ?_
  refine g_aast (pc := 75) (a := 69) (b := 70) (n := 2) (f := rgC 70 0) (vs := memL 70 (mem s_new)) dX3_init_75 (show (([cObj 3 [vR 1, vR 3, vR 7, vR 11, vR 69, vN]] ++ ([cObj 2 [vR 2, vI 0], cArr 1 100 fun _ => 0] ++ (memC 3 (mem s_new) ++ (memC 7 (mem s_new) ++ (hisC 11 14 ++ ([cRef 2 (rgC 70 0)] ++ memC 70 (mem s_new))))))))[69]? = some (cRef 2 (rgC 70 0)) from rfl) (by decide) (show (([cObj 3 [vR 1, vR 3, vR 7, vR 11, vR 69, vN]] ++ ([cObj 2 [vR 2, vI 0], cArr 1 100 fun _ => 0] ++ (memC 3 (mem s_new) ++ (memC 7 (mem s_new) ++ (hisC 11 14 ++ ([cRef 2 (rgC 70 0)] ++ memC 70 (mem s_new))))))))[70]? = some (cObj 1 (memL 70 (mem s_new))) from rfl) ?_
  refine G.eqw (w' := ([cObj 3 [vR 1, vR 3, vR 7, vR 11, vR 69, vN]] ++ ([cObj 2 [vR 2, vI 0], cArr 1 100 fun _ => 0] ++ (memC 3 (mem s_new) ++ (memC 7 (mem s_new) ++ (hisC 11 14 ++ ([cRef 2 (rgC 70 1)] ++ memC 70 (mem s_new)))))))) (Eq.trans (b := (([cObj 3 [vR 1, vR 3, vR 7, vR 11, vR 69, vN]] ++ ([cObj 2 [vR 2, vI 0], cArr 1 100 fun _ => 0] ++ (memC 3 (mem s_new) ++ (memC 7 (mem s_new) ++ (hisC 11 14 ++ ([cRef 2 (rgC 70 0)] ++ memC 70 (mem s_new)))))))).set 69 (cRef 2 (rgC 70 1))) (congrArg (fun z => (([cObj 3 [vR 1, vR 3, vR 7, vR 11, vR 69, vN]] ++ ([cObj 2 [vR 2, vI 0], cArr 1 100 fun _ => 0] ++ (memC 3 (mem s_new) ++ (memC 7 (mem s_new) ++ (hisC 11 14 ++ ([cRef 2 (rgC 70 0)] ++ memC 70 (mem s_new)))))))).set 69 (cRef 2 z)) (rgC_s 70 0)) rfl) ?_
  refine g_iinc (pc := 76) dX3_init_76 rfl (by decide) rfl ?_
  simp only [List.set_cons_succ, List.set_cons_zero]
  refine g_goto (tgt := 58) (pc := 79) dX3_init_79 (by decide) ?_
  refine g_iload_n (i := 1) (pc := 58) dX3_init_58 rfl rfl ?_
  refine g_iconst (pc := 59) dX3_init_59 ?_
  refine g_c_ge (tgt := 82) (pc := 60) dX3_init_60 (by decide) (by decide) (fun c60 => absurd c60 (by decide)) (fun c60 => ?_)
  refine g_aload_n (i := 0) (pc := 63) dX3_init_63 rfl rfl ?_
  refine g_getf (pc := 64) f_X3_33 dX3_init_64 (show (([cObj 3 [vR 1, vR 3, vR 7, vR 11, vR 69, vN]] ++ ([cObj 2 [vR 2, vI 0], cArr 1 100 fun _ => 0] ++ (memC 3 (mem s_new) ++ (memC 7 (mem s_new) ++ (hisC 11 14 ++ ([cRef 2 (rgC 70 1)] ++ memC 70 (mem s_new))))))))[0]? = some (cObj 3 [vR 1, vR 3, vR 7, vR 11, vR 69, vN]) from rfl) rfl ?_
  refine g_iload_n (i := 1) (pc := 67) dX3_init_67 rfl rfl ?_
  refine g_new (bc := 4) (bs := 130) (n := 10) (pc := 68) n_X3_16 dX3_init_68 (Nat.le_of_ble_eq_true rfl) ?_
  refine g_dup (pc := 71) dX3_init_71 (fun z h => nomatch h) ?_
  refine G.eqw (w' := ([cObj 3 [vR 1, vR 3, vR 7, vR 11, vR 69, vN]] ++ ([cObj 2 [vR 2, vI 0], cArr 1 100 fun _ => 0] ++ (memC 3 (mem s_new) ++ (memC 7 (mem s_new) ++ (hisC 11 14 ++ ([cRef 2 (rgC 70 1)] ++ memC 70 (mem s_new))))))) ++ [cObj 1 [vN, vN, vN, vI 0, vI 0, vI 0, vI 0, vI 0, vI 0, vI 0]]) rfl ?_
  refine g_callI (pc := 72) (as := []) (bc' := 3) (bs' := 128) okI_X1_init rfl l_X3_18 dX3_init_72 rfl (Nat.le_of_ble_eq_true rfl) (by decide) (Nat.le_of_ble_eq_true rfl) ⟨by decide, by decide⟩ (t_X1_init (w := ([cObj 3 [vR 1, vR 3, vR 7, vR 11, vR 69, vN]] ++ ([cObj 2 [vR 2, vI 0], cArr 1 100 fun _ => 0] ++ (memC 3 (mem s_new) ++ (memC 7 (mem s_new) ++ (hisC 11 14 ++ ([cRef 2 (rgC 70 1)] ++ memC 70 (mem s_new)))))))) (Nat.le_of_ble_eq_true rfl)) (fun E w' h => nomatch h.1) (fun _ r w' h => by rw [h.2]; rfl) (fun r w' h => ?_)
  obtain ⟨hr9, rfl⟩ := h
  obtain rfl := Sum.inl.inj hr9
  simp only [Option.toList, List.nil_append]
  refine G.bud (bc := 1) (bs := 2) ?_ (by decide) (by decide)
  refine G.eqw (w' := ([cObj 3 [vR 1, vR 3, vR 7, vR 11, vR 69, vN]] ++ ([cObj 2 [vR 2, vI 0], cArr 1 100 fun _ => 0] ++ (memC 3 (mem s_new) ++ (memC 7 (mem s_new) ++ (hisC 11 14 ++ ([cRef 2 (rgC 70 1)] ++ (memC 70 (mem s_new) ++ memC 74 (mem s_new))))))))) rfl ?_
  refine g_aast (pc := 75) (a := 69) (b := 74) (n := 2) (f := rgC 70 1) (vs := memL 74 (mem s_new)) dX3_init_75 (show (([cObj 3 [vR 1, vR 3, vR 7, vR 11, vR 69, vN]] ++ ([cObj 2 [vR 2, vI 0], cArr 1 100 fun _ => 0] ++ (memC 3 (mem s_new) ++ (memC 7 (mem s_new) ++ (hisC 11 14 ++ ([cRef 2 (rgC 70 1)] ++ (memC 70 (mem s_new) ++ memC 74 (mem s_new)))))))))[69]? = some (cRef 2 (rgC 70 1)) from rfl) (by decide) (show (([cObj 3 [vR 1, vR 3, vR 7, vR 11, vR 69, vN]] ++ ([cObj 2 [vR 2, vI 0], cArr 1 100 fun _ => 0] ++ (memC 3 (mem s_new) ++ (memC 7 (mem s_new) ++ (hisC 11 14 ++ ([cRef 2 (rgC 70 1)] ++ (memC 70 (mem s_new) ++ memC 74 (mem s_new)))))))))[74]? = some (cObj 1 (memL 74 (mem s_new))) from rfl) ?_
  refine G.eqw (w' := ([cObj 3 [vR 1, vR 3, vR 7, vR 11, vR 69, vN]] ++ ([cObj 2 [vR 2, vI 0], cArr 1 100 fun _ => 0] ++ (memC 3 (mem s_new) ++ (memC 7 (mem s_new) ++ (hisC 11 14 ++ ([cRef 2 (rgC 70 2)] ++ (memC 70 (mem s_new) ++ memC 74 (mem s_new))))))))) (Eq.trans (b := (([cObj 3 [vR 1, vR 3, vR 7, vR 11, vR 69, vN]] ++ ([cObj 2 [vR 2, vI 0], cArr 1 100 fun _ => 0] ++ (memC 3 (mem s_new) ++ (memC 7 (mem s_new) ++ (hisC 11 14 ++ ([cRef 2 (rgC 70 1)] ++ (memC 70 (mem s_new) ++ memC 74 (mem s_new))))))))).set 69 (cRef 2 (rgC 70 2))) (congrArg (fun z => (([cObj 3 [vR 1, vR 3, vR 7, vR 11, vR 69, vN]] ++ ([cObj 2 [vR 2, vI 0], cArr 1 100 fun _ => 0] ++ (memC 3 (mem s_new) ++ (memC 7 (mem s_new) ++ (hisC 11 14 ++ ([cRef 2 (rgC 70 1)] ++ (memC 70 (mem s_new) ++ memC 74 (mem s_new))))))))).set 69 (cRef 2 z)) (rgC_s 70 1)) rfl) ?_
  refine g_iinc (pc := 76) dX3_init_76 rfl (by decide) rfl ?_
  simp only [List.set_cons_succ, List.set_cons_zero]
  refine g_goto (tgt := 58) (pc := 79) dX3_init_79 (by decide) ?_
  refine g_iload_n (i := 1) (pc := 58) dX3_init_58 rfl rfl ?_
  refine g_iconst (pc := 59) dX3_init_59 ?_
  refine g_c_ge (tgt := 82) (pc := 60) dX3_init_60 (by decide) (by decide) (fun c60 => ?_) (fun c60 => absurd c60 (by decide))
  refine g_aload_n (i := 0) (pc := 82) dX3_init_82 rfl rfl ?_
  refine g_iconst (pc := 83) dX3_init_83 ?_
  refine g_newZ (bc := 0) (bs := 0) (n := 2) (pc := 84) dX3_init_84 (by decide) rfl (by decide) (Nat.le_of_ble_eq_true rfl) ?_
  refine G.eqw (w' := ([cObj 3 [vR 1, vR 3, vR 7, vR 11, vR 69, vN]] ++ ([cObj 2 [vR 2, vI 0], cArr 1 100 fun _ => 0] ++ (memC 3 (mem s_new) ++ (memC 7 (mem s_new) ++ (hisC 11 14 ++ ([cRef 2 (rgC 70 2)] ++ (memC 70 (mem s_new) ++ (memC 74 (mem s_new) ++ [cArr 2 2 fun _ => 0]))))))))) rfl ?_
  refine g_put (pc := 86) ft_X3_37 dX3_init_86 (show (([cObj 3 [vR 1, vR 3, vR 7, vR 11, vR 69, vN]] ++ ([cObj 2 [vR 2, vI 0], cArr 1 100 fun _ => 0] ++ (memC 3 (mem s_new) ++ (memC 7 (mem s_new) ++ (hisC 11 14 ++ ([cRef 2 (rgC 70 2)] ++ (memC 70 (mem s_new) ++ (memC 74 (mem s_new) ++ [cArr 2 2 fun _ => 0])))))))))[0]? = some (cObj 3 [vR 1, vR 3, vR 7, vR 11, vR 69, vN]) from rfl) (Nat.le_of_ble_eq_true rfl) (fun _ => rfl) (fun _ => rfl) (fun _ => rfl) ?_
  refine G.eqw (w' := ([cObj 3 [vR 1, vR 3, vR 7, vR 11, vR 69, vR 78]] ++ ([cObj 2 [vR 2, vI 0], cArr 1 100 fun _ => 0] ++ (memC 3 (mem s_new) ++ (memC 7 (mem s_new) ++ (hisC 11 14 ++ ([cRef 2 (rgC 70 2)] ++ (memC 70 (mem s_new) ++ (memC 74 (mem s_new) ++ [cArr 2 2 fun _ => 0]))))))))) rfl ?_
  refine g_vret (pc := 89) rfl dX3_init_89 (fun h => h) ?_
  exact dt_v rfl
def k_00 : KT := (fun _ => 0, 0, fun _ => s_new, 0, 0, fun _ => 0)
theorem ring_14 : rgC 13 14 = ringF := rfl
theorem kinv_00 : KInv k_00 := ⟨fun _ => (show (0 : Int) ≤ 0 ∧ (0 : Int) < 256 by decide), by decide, fun _ => inv_new, by decide, by decide, fun _ => Or.inl rfl⟩
def d_00 : DT := (fun _ => 0, fun _ => 0, fun _ => 0)
set_option maxRecDepth 100000 in
set_option maxHeartbeats 2000000 in
theorem W85_eq : W79 ++ [cArr 0 7 fun _ => 0, cArr 3 32 fun _ => 0, cArr 0 32 fun _ => 0, cArr 0 7 fun _ => 0, cArr 3 32 fun _ => 0, cArr 0 32 fun _ => 0] = cW k_00 d_00 d_00 := rfl
theorem zi_00 : ZI d_00 := ⟨fun _ _ => rfl, fun _ _ => rfl, fun _ _ => rfl⟩
end MM9
