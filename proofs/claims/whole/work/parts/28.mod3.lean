/-! THE REFERENCE, pressure, tries, commands (printed by wip/whole/mod3.py, but for the first rows) -/
section MC9
theorem oc_no {σ : SG} {p v : Int} (h : ¬ hasPg σ p v = true) : oc σ p v = -1 := by unfold oc; rw [if_neg h]
theorem nff_le {σ : SG} (hi : Inv σ) {p : Int} (hp : 0 ≤ p ∧ p < 4) : ∀ j : Nat, j ≤ 16 → nff σ ≤ nff (s_le σ p j)
  | 0, _ => Int.le_refl _
  | j + 1, h => by
    have h1 := nff_le hi hp j (by omega)
    have h2 := nff_let (σ := s_le σ p j) (p := p) (v := (j : Int)) (inv_le hi hp j (by omega)) hp (by omega)
    have h3 : nff (s_le σ p (j + 1)) = nff (s_setfr (s_le σ p j) (16 * p + (j : Int)).toNat (-1)) := rfl
    have h4 : 0 ≤ lg (s_le σ p j) p j := by unfold lg; (repeat' split) <;> omega
    omega
theorem canE_p {σ : SG} {p : Int} (h : canE σ p = true) : 0 ≤ p ∧ p < 4 := by
  rw [canE, Bool.and_eq_true] at h
  have := ex_of h.1
  omega
theorem dev_ok {σ : SG} (hi : Inv σ) {p : Int} : dev σ p ≠ -1 ↔ canE σ p = true := by
  unfold dev
  by_cases h : canE σ p = true
  · rw [if_pos h]
    have := nff_le hi (canE_p h) 16 (by omega)
    exact ⟨fun _ => h, fun _ => by omega⟩
  · rw [if_neg h]
    exact ⟨fun z => absurd rfl z, fun z => absurd z h⟩
theorem dfv_ok {σ : SG} {p : Int} : dfv σ p ≠ -1 ↔ canF σ p = true := by
  unfold dfv
  by_cases h : canF σ p = true
  · rw [if_pos h]
    rw [canF, Bool.and_eq_true, decide_eq_true_eq] at h
    exact ⟨fun _ => by rw [canF, Bool.and_eq_true, decide_eq_true_eq]; exact h, fun _ => h.2⟩
  · rw [if_neg h]
    exact ⟨fun z => absurd rfl z, fun z => absurd z h⟩
theorem xc_fk0 {σ : SG} {p : Int} : xc_fk σ p = 0 ↔ canF σ p = true := by
  unfold xc_fk
  rw [canF, Bool.and_eq_true, decide_eq_true_eq]
  (repeat' split) <;> simp_all
theorem xc_ex0 {σ : SG} {p : Int} : xc_ex σ p = 0 ↔ canE σ p = true := by
  unfold xc_ex
  by_cases h : hasP σ p = true
  · rw [if_pos h]
    by_cases q : canE σ p = true
    · rw [if_pos q]; exact ⟨fun _ => q, fun _ => rfl⟩
    · rw [if_neg q]; exact ⟨fun z => by omega, fun z => absurd z q⟩
  · rw [if_neg h]
    refine ⟨fun z => by omega, fun z => ?_⟩
    rw [canE, Bool.and_eq_true] at z
    exact absurd z.1 h
theorem big_gr {σ : SG} (hi : Inv σ) {p g : Int} (h : big σ p g = true) : hasGr σ p g = true := by
  obtain ⟨h1, h2, h3, h4, h5⟩ := of_decide_eq_true h
  unfold hasGr hasP
  rw [Bool.and_eq_true, decide_eq_true_eq, decide_eq_true_eq]
  refine ⟨⟨h1, h2, ?_⟩, h3, h4⟩
  rcases hi.2.2.2.2.2.2.1 p.toNat with q | q
  · exfalso
    have := hi.2.2.2.2.2.2.2.2.2.2 p.toNat g.toNat (by omega) (by omega) q
    rw [show 4 * p.toNat + g.toNat = (4 * p + g).toNat by omega] at this
    omega
  · exact q
set_option maxRecDepth 20000 in
set_option maxHeartbeats 4000000 in
theorem t_X4_pressed {κ : KT} {ν : NT} {o : Nat → Int} {al : Bool} (hi : Inv (n_st ν)) {n : Int} (h_n : -2147483648 ≤ n ∧ n < 2147483648) : GM M_X4_pressed al [vR 79, vI n] (cW κ (dE ν) o) 0 0 (dt (some (vI (nff (s_pre (n_st ν) n)))) (cW κ (dE (n_setst ν (s_pre (n_st ν) n))) o)) := by
  show G _ none _ _ 0 [some (vR 79), some (vI n), none, none, none] [] _ _ _ _
  refine g_iconst (pc := 0) dX4_pressed_0 ?_
  refine g_istore_n (i := 2) (pc := 1) dX4_pressed_1 rfl (by decide) rfl ?_
  simp only [List.set_cons_succ, List.set_cons_zero]
  have hi9 := hi
  refine lp_up (P := fun k => mus (itp (n_st ν) n k) + k ≤ 80 → G M_X4_pressed none al al 2 [some (vR 79), some (vI n), some (vI 1), none, none] [] (cW κ (dE (n_setst ν (itp (n_st ν) n k))) o) 0 0 (dt (some (vI (nff (s_pre (n_st ν) n)))) (cW κ (dE (n_setst ν (s_pre (n_st ν) n))) o))) 81 ?_ ?_ 0 (Nat.zero_le _) (by have := mus_rng (n_st ν); show mus (n_st ν) + ((0 : Nat) : Int) ≤ 80; omega)
  · intro h
    exfalso
    have := mus_rng (itp (n_st ν) n 81)
    omega
  · intro k hk ih hM
    have hi := inv_itp hi9 n k
    have yM := mus_rng (itp (n_st ν) n k)
    show G _ _ _ _ _ _ _ _ _ _ _
    refine g_iload_n (i := 2) (pc := 2) dX4_pressed_2 rfl rfl ?_
    refine g_z_eq (tgt := 101) (pc := 3) dX4_pressed_3 (by omega) (by decide) (fun c3 => absurd c3 (by omega)) (fun c3 => ?_)
    refine g_aload_n (i := 0) (pc := 6) dX4_pressed_6 rfl rfl ?_
    refine g_v0 (pc := 7) okV_X4_freeFrames rfl l_X4_103 dX4_pressed_7 (c_79) hc_4 (by decide) (by decide) (Nat.le_of_ble_eq_true rfl) (t_X4_freeFrames hi) rfl ?_
    simp only [Option.toList, List.cons_append, List.nil_append]
    refine G.eqS (v' := vI (nff (itp (n_st ν) n k))) rfl ?_
    have bb := nff_rng (itp (n_st ν) n k)
    refine g_iload_n (i := 1) (pc := 10) dX4_pressed_10 rfl rfl ?_
    refine g_c_ge (tgt := 101) (pc := 11) dX4_pressed_11 (by omega) (by decide) (fun c11 => ?_) (fun c11 => ?_)
    · skip
      have e9 : s_pre (n_st ν) n = itp (n_st ν) n k := by
        have e8 := itp_fix (σ := n_st ν) (n := n) (k := k) (by
          unfold pst
          rw [if_pos (by omega)]) (80 - k)
        rw [show k + (80 - k) = 80 by omega] at e8
        exact e8
      obtain ⟨Sx9, hS⟩ : ∃ Sx9, Sx9 = s_pre (n_st ν) n := ⟨_, rfl⟩
      refine G.eqw (congrArg (fun z => cW κ (dE (n_setst ν z)) o) (e9.symm.trans hS.symm)) ?_
      have hi : Inv Sx9 := by
        rw [hS]
        exact inv_itp hi9 n 80
      refine g_aload_n (i := 0) (pc := 101) dX4_pressed_101 rfl rfl ?_
      refine g_v0 (pc := 102) okV_X4_freeFrames rfl l_X4_103 dX4_pressed_102 (c_79) hc_4 (by decide) (by decide) (Nat.le_of_ble_eq_true rfl) (t_X4_freeFrames hi) rfl ?_
      simp only [Option.toList, List.cons_append, List.nil_append]
      refine G.eqS (v' := vI (nff (Sx9))) rfl ?_
      have bb := nff_rng (Sx9)
      refine g_iret (pc := 105) rfl dX4_pressed_105 (fun h => h) ?_
      exact dt_i (by rw [hS]) (by rw [hS])
    · skip
      refine g_aload_n (i := 0) (pc := 14) dX4_pressed_14 rfl rfl ?_
      refine g_v0 (pc := 15) okV_X4_firstLoser rfl l_X4_115 dX4_pressed_15 (c_79) hc_4 (by decide) (by decide) (Nat.le_of_ble_eq_true rfl) (t_X4_firstLoser hi) rfl ?_
      simp only [Option.toList, List.cons_append, List.nil_append]
      refine G.eqS (v' := vI (li (itp (n_st ν) n k))) rfl ?_
      have bb := li_rng (itp (n_st ν) n k)
      refine g_istore_n (i := 3) (pc := 18) dX4_pressed_18 rfl (by decide) rfl ?_
      simp only [List.set_cons_succ, List.set_cons_zero]
      refine g_iload_n (i := 3) (pc := 19) dX4_pressed_19 rfl rfl ?_
      refine g_iconst (pc := 20) dX4_pressed_20 ?_
      refine g_c_ne (tgt := 31) (pc := 21) dX4_pressed_21 (by omega) (by decide) (fun c21 => ?_) (fun c21 => ?_)
      · skip
        refine g_iconst (pc := 31) dX4_pressed_31 ?_
        refine g_istore (pc := 32) dX4_pressed_32 (by decide) rfl ?_
        simp only [List.set_cons_succ, List.set_cons_zero]
        refine g_iload_n (i := 3) (pc := 34) dX4_pressed_34 rfl rfl ?_
        refine g_iconst (pc := 35) dX4_pressed_35 ?_
        refine g_c_ne (tgt := 45) (pc := 36) dX4_pressed_36 (by omega) (by decide) (fun c36 => ?_) (fun c36 => absurd c36 (by omega))
        refine g_iconst (pc := 45) dX4_pressed_45 ?_
        refine g_goto (tgt := 50) (pc := 46) dX4_pressed_46 (by decide) ?_
        refine g_istore_n (i := 2) (pc := 50) dX4_pressed_50 rfl (by decide) rfl ?_
        simp only [List.set_cons_succ, List.set_cons_zero]
        refine g_iload_n (i := 3) (pc := 51) dX4_pressed_51 rfl rfl ?_
        refine g_iconst (pc := 52) dX4_pressed_52 ?_
        refine g_c_eq (tgt := 79) (pc := 53) dX4_pressed_53 (by omega) (by decide) (fun c53 => absurd c53 (by omega)) (fun c53 => ?_)
        refine g_aload_n (i := 0) (pc := 56) dX4_pressed_56 rfl rfl ?_
        refine g_getf (pc := 57) f_X4_7 dX4_pressed_57 (c_79) rfl ?_
        refine g_iconst (pc := 60) dX4_pressed_60 ?_
        refine g_iload_n (i := 3) (pc := 61) dX4_pressed_61 rfl rfl ?_
        refine g_iadd (pc := 62) dX4_pressed_62 ?_
        refine g_iconst (pc := 63) dX4_pressed_63 ?_
        refine g_iast (pc := 64) dX4_pressed_64 c_80 (by omega) ?_
        refine G.eqw (w4_fr (k := (li (itp (n_st ν) n k)).toNat) (by omega) (by omega)) ?_
        refine g_aload_n (i := 0) (pc := 65) dX4_pressed_65 rfl rfl ?_
        refine g_getf (pc := 66) f_X4_7 dX4_pressed_66 (c_79) rfl ?_
        refine g_bipush (pc := 69) dX4_pressed_69 (by decide) ?_
        refine g_dup2 (pc := 71) dX4_pressed_71 (fun z h => nomatch h) (fun z h => nomatch h) ?_
        refine g_iald (pc := 72) dX4_pressed_72 (c_80) (by omega) ?_
        refine G.eqS (congrArg (fun z => vI z) (show _ = s_lo (n_st (n_setst (n_setst ν (itp (n_st ν) n k)) (s_setfr (n_st (n_setst ν (itp (n_st ν) n k))) (li (itp (n_st ν) n k)).toNat (-1)))) from rfl)) ?_
        refine g_iconst (pc := 73) dX4_pressed_73 ?_
        refine g_iadd (pc := 74) dX4_pressed_74 ?_
        refine g_iast (pc := 75) dX4_pressed_75 c_80 (by decide) ?_
        refine G.eqw w4_lo ?_
        refine g_goto (tgt := 98) (pc := 76) dX4_pressed_76 (by decide) ?_
        refine g_goto (tgt := 2) (pc := 98) dX4_pressed_98 (by decide) ?_
        refine G.drop 4 (G.drop 3 ?_)
        simp only [List.set_cons_succ, List.set_cons_zero]
        refine G.eqw (w' := cW κ (dE (n_setst ν (itp (n_st ν) n (k + 1)))) o) ?_ (ih ?_)
        · refine Eq.trans (b := cW κ (dE (n_setst ν (s_los (itp (n_st ν) n k)))) o) rfl (congrArg (fun z => cW κ (dE (n_setst ν z)) o) ?_)
          show _ = pst (itp (n_st ν) n k) n
          unfold pst
          rw [if_neg (show ¬ n ≤ nff (itp (n_st ν) n k) by omega), if_pos (show li (itp (n_st ν) n k) ≠ -1 by omega)]
        · have e7 : itp (n_st ν) n (k + 1) = s_los (itp (n_st ν) n k) := by
            show pst (itp (n_st ν) n k) n = _
            unfold pst
            rw [if_neg (show ¬ n ≤ nff (itp (n_st ν) n k) by omega), if_pos (show li (itp (n_st ν) n k) ≠ -1 by omega)]
          have e6 := mus_los (σ := itp (n_st ν) n k) (by omega)
          rw [e7]
          omega
      · skip
        refine g_aload_n (i := 0) (pc := 24) dX4_pressed_24 rfl rfl ?_
        refine g_v0 (pc := 25) okV_X4_firstTorn rfl l_X4_118 dX4_pressed_25 (c_79) hc_4 (by decide) (by decide) (Nat.le_of_ble_eq_true rfl) (t_X4_firstTorn hi) rfl ?_
        simp only [Option.toList, List.cons_append, List.nil_append]
        refine G.eqS (v' := vI ((tb (itp (n_st ν) n k) 16).1)) rfl ?_
        have bb := tb_rng (itp (n_st ν) n k) 16
        refine g_goto (tgt := 32) (pc := 28) dX4_pressed_28 (by decide) ?_
        refine g_istore (pc := 32) dX4_pressed_32 (by decide) rfl ?_
        simp only [List.set_cons_succ, List.set_cons_zero]
        refine g_iload_n (i := 3) (pc := 34) dX4_pressed_34 rfl rfl ?_
        refine g_iconst (pc := 35) dX4_pressed_35 ?_
        refine g_c_ne (tgt := 45) (pc := 36) dX4_pressed_36 (by omega) (by decide) (fun c36 => absurd c36 (by omega)) (fun c36 => ?_)
        refine g_iload (pc := 39) dX4_pressed_39 rfl ?_
        refine g_iconst (pc := 41) dX4_pressed_41 ?_
        refine g_c_eq (tgt := 49) (pc := 42) dX4_pressed_42 (by omega) (by decide) (fun c42 => ?_) (fun c42 => ?_)
        · skip
          have e9 : s_pre (n_st ν) n = itp (n_st ν) n k := by
            have e8 := itp_fix (σ := n_st ν) (n := n) (k := k) (by
              unfold pst
              rw [if_neg (by omega), if_neg (by omega), if_neg (by omega)]) (80 - k)
            rw [show k + (80 - k) = 80 by omega] at e8
            exact e8
          obtain ⟨Sx9, hS⟩ : ∃ Sx9, Sx9 = s_pre (n_st ν) n := ⟨_, rfl⟩
          refine G.eqw (congrArg (fun z => cW κ (dE (n_setst ν z)) o) (e9.symm.trans hS.symm)) ?_
          have hi : Inv Sx9 := by
            rw [hS]
            exact inv_itp hi9 n 80
          refine g_iconst (pc := 49) dX4_pressed_49 ?_
          refine g_istore_n (i := 2) (pc := 50) dX4_pressed_50 rfl (by decide) rfl ?_
          simp only [List.set_cons_succ, List.set_cons_zero]
          refine g_iload_n (i := 3) (pc := 51) dX4_pressed_51 rfl rfl ?_
          refine g_iconst (pc := 52) dX4_pressed_52 ?_
          refine g_c_eq (tgt := 79) (pc := 53) dX4_pressed_53 (by omega) (by decide) (fun c53 => ?_) (fun c53 => absurd c53 (by omega))
          refine g_iload (pc := 79) dX4_pressed_79 rfl ?_
          refine g_iconst (pc := 81) dX4_pressed_81 ?_
          refine g_c_eq (tgt := 98) (pc := 82) dX4_pressed_82 (by omega) (by decide) (fun c82 => ?_) (fun c82 => absurd c82 (by omega))
          refine g_goto (tgt := 2) (pc := 98) dX4_pressed_98 (by decide) ?_
          refine g_iload_n (i := 2) (pc := 2) dX4_pressed_2 rfl rfl ?_
          refine g_z_eq (tgt := 101) (pc := 3) dX4_pressed_3 (by omega) (by decide) (fun c3 => ?_) (fun c3 => absurd c3 (by omega))
          refine g_aload_n (i := 0) (pc := 101) dX4_pressed_101 rfl rfl ?_
          refine g_v0 (pc := 102) okV_X4_freeFrames rfl l_X4_103 dX4_pressed_102 (c_79) hc_4 (by decide) (by decide) (Nat.le_of_ble_eq_true rfl) (t_X4_freeFrames hi) rfl ?_
          simp only [Option.toList, List.cons_append, List.nil_append]
          refine G.eqS (v' := vI (nff (Sx9))) rfl ?_
          have bb := nff_rng (Sx9)
          refine g_iret (pc := 105) rfl dX4_pressed_105 (fun h => h) ?_
          exact dt_i (by rw [hS]) (by rw [hS])
        · skip
          refine g_iconst (pc := 45) dX4_pressed_45 ?_
          refine g_goto (tgt := 50) (pc := 46) dX4_pressed_46 (by decide) ?_
          refine g_istore_n (i := 2) (pc := 50) dX4_pressed_50 rfl (by decide) rfl ?_
          simp only [List.set_cons_succ, List.set_cons_zero]
          refine g_iload_n (i := 3) (pc := 51) dX4_pressed_51 rfl rfl ?_
          refine g_iconst (pc := 52) dX4_pressed_52 ?_
          refine g_c_eq (tgt := 79) (pc := 53) dX4_pressed_53 (by omega) (by decide) (fun c53 => ?_) (fun c53 => absurd c53 (by omega))
          refine g_iload (pc := 79) dX4_pressed_79 rfl ?_
          refine g_iconst (pc := 81) dX4_pressed_81 ?_
          refine g_c_eq (tgt := 98) (pc := 82) dX4_pressed_82 (by omega) (by decide) (fun c82 => absurd c82 (by omega)) (fun c82 => ?_)
          refine g_aload_n (i := 0) (pc := 85) dX4_pressed_85 rfl rfl ?_
          refine g_iload (pc := 86) dX4_pressed_86 rfl ?_
          refine g_iconst (pc := 88) dX4_pressed_88 ?_
          refine g_idiv (pc := 89) dX4_pressed_89 (by omega) (by omega) ?_
          refine G.eqS (congrArg (fun z => vI z) (Int.tdiv_eq_ediv_of_nonneg (by omega))) ?_
          refine g_iload (pc := 90) dX4_pressed_90 rfl ?_
          refine g_iconst (pc := 92) dX4_pressed_92 ?_
          refine g_irem (pc := 93) dX4_pressed_93 (by omega) (by omega) ?_
          refine G.eqS (congrArg (fun z => vI z) (Int.tmod_eq_emod_of_nonneg (by omega))) ?_
          refine g_v2 (pc := 94) okV_X4_torn rfl l_X4_121 dX4_pressed_94 (c_79) hc_4 (by decide) (by decide) (Nat.le_of_ble_eq_true rfl) (t_X4_torn hi (by omega) (by omega)) (by rw [c_len, c_len]) ?_
          simp only [Option.toList, List.cons_append, List.nil_append]
          refine G.eqS (v' := vI (ro (itp (n_st ν) n k) (((tb (itp (n_st ν) n k) 16).1 / 4)) (((tb (itp (n_st ν) n k) 16).1 % 4)))) rfl ?_
          have bb := ro_rng (σ := (itp (n_st ν) n k)) hi (((tb (itp (n_st ν) n k) 16).1 / 4)) (((tb (itp (n_st ν) n k) 16).1 % 4))
          refine g_pop (pc := 97) dX4_pressed_97 (fun z h => nomatch h) ?_
          refine g_goto (tgt := 2) (pc := 98) dX4_pressed_98 (by decide) ?_
          refine G.drop 4 (G.drop 3 ?_)
          simp only [List.set_cons_succ, List.set_cons_zero]
          refine G.eqw (w' := cW κ (dE (n_setst ν (itp (n_st ν) n (k + 1)))) o) ?_ (ih ?_)
          · refine Eq.trans (b := cW κ (dE (n_setst ν (s_ter (itp (n_st ν) n k)))) o) rfl (congrArg (fun z => cW κ (dE (n_setst ν z)) o) ?_)
            show _ = pst (itp (n_st ν) n k) n
            unfold pst
            rw [if_neg (show ¬ n ≤ nff (itp (n_st ν) n k) by omega), if_neg (show ¬ li (itp (n_st ν) n k) ≠ -1 by omega), if_pos (show (tb (itp (n_st ν) n k) 16).1 ≠ -1 by omega)]
          · have e7 : itp (n_st ν) n (k + 1) = s_ter (itp (n_st ν) n k) := by
              show pst (itp (n_st ν) n k) n = _
              unfold pst
              rw [if_neg (show ¬ n ≤ nff (itp (n_st ν) n k) by omega), if_neg (show ¬ li (itp (n_st ν) n k) ≠ -1 by omega), if_pos (show (tb (itp (n_st ν) n k) 16).1 ≠ -1 by omega)]
            have e6 := mus_ter (σ := itp (n_st ν) n k) (by omega)
            rw [e7]
            omega
set_option maxRecDepth 20000 in
set_option maxHeartbeats 4000000 in
theorem t_X4_tryWrite {κ : KT} {ν : NT} {o : Nat → Int} {al : Bool} (hi : Inv (n_st ν)) {p v : Int} (h_p : -2147483648 ≤ p ∧ p < 2147483648) (h_v : -2147483648 ≤ v ∧ v < 2147483648) {x : Int} (h_x : 0 ≤ x ∧ x < 100) : GM M_X4_tryWrite al [vR 79, vI p, vI v, vI x] (cW κ (dE ν) o) 0 0 (dt (some (vI (b2 (decide (dwv (n_st ν) p v x ≠ -1))))) (cW κ (dE (n_setst ν (dw (n_st ν) p v x))) o)) := by
  show G _ none _ _ 0 [some (vR 79), some (vI p), some (vI v), some (vI x), none] [] _ _ _ _
  refine g_aload_n (i := 0) (pc := 0) dX4_tryWrite_0 rfl rfl ?_
  refine g_iload_n (i := 1) (pc := 1) dX4_tryWrite_1 rfl rfl ?_
  refine g_iload_n (i := 2) (pc := 2) dX4_tryWrite_2 rfl rfl ?_
  refine g_v2 (pc := 3) okV_X4_isPage rfl l_X4_166 dX4_tryWrite_3 (c_79) hc_4 (by decide) (by decide) (Nat.le_of_ble_eq_true rfl) (t_X4_isPage hi (by omega) (by omega)) rfl ?_
  simp only [Option.toList, List.cons_append, List.nil_append]
  have bb := b2_rng (hasPg (n_st ν) (p) (v))
  refine g_z_eq (tgt := 23) (pc := 6) dX4_tryWrite_6 (by omega) (by decide) (fun c6 => ?_) (fun c6 => ?_)
  · skip
    have h_o := oc_no (b2_0.mp (show b2 (hasPg (n_st ν) p v) = 0 by omega))
    have h_z : dwv (n_st ν) p v x = -1 := by unfold dwv; rw [if_pos (Or.inl h_o)]
    refine g_iconst (pc := 23) dX4_tryWrite_23 ?_
    refine g_istore (pc := 24) dX4_tryWrite_24 (by decide) rfl ?_
    simp only [List.set_cons_succ, List.set_cons_zero]
    refine g_iload (pc := 26) dX4_tryWrite_26 rfl ?_
    refine g_z_eq (tgt := 39) (pc := 28) dX4_tryWrite_28 (by omega) (by decide) (fun c28 => ?_) (fun c28 => absurd c28 (by omega))
    refine g_iload (pc := 39) dX4_tryWrite_39 rfl ?_
    refine g_zret (pc := 41) rfl dX4_tryWrite_41 (by omega) (fun h => h) ?_
    first
    | (refine dt_i ?_ (congrArg (fun z => cW κ (dE (n_setst ν z)) o) ?_)
       · rw [b2_t (b := decide (dwv (n_st ν) p v x ≠ -1)) (decide_eq_true (by unfold dwv; rw [if_neg (by omega)]; exact h_o))]
       · unfold dw; rw [if_neg (by omega)])
    | (refine dt_i ?_ (Eq.trans (b := cW κ (dE (n_setst ν (n_st ν))) o) rfl (congrArg (fun z => cW κ (dE (n_setst ν z)) o) ?_))
       · rw [b2_f (b := decide (dwv (n_st ν) p v x ≠ -1)) (fun q => absurd (of_decide_eq_true q) (by rw [h_z]; decide))]
       · unfold dw; rw [if_pos (Or.inl h_o)])
  · skip
    have h_pg := b2_1.mp (show b2 (hasPg (n_st ν) p v) = 1 by omega)
    refine g_aload_n (i := 0) (pc := 9) dX4_tryWrite_9 rfl rfl ?_
    refine g_iload_n (i := 1) (pc := 10) dX4_tryWrite_10 rfl rfl ?_
    refine g_iload_n (i := 2) (pc := 11) dX4_tryWrite_11 rfl rfl ?_
    refine g_v2 (pc := 12) okV_X4_outcome rfl l_X4_90 dX4_tryWrite_12 (c_79) hc_4 (by decide) (by decide) (Nat.le_of_ble_eq_true rfl) (t_X4_outcome hi (by first | assumption | exact h_pg)) rfl ?_
    simp only [Option.toList, List.cons_append, List.nil_append]
    have bb := oc_rng (n_st ν) (p) (v)
    refine g_iconst (pc := 15) dX4_tryWrite_15 ?_
    refine g_c_eq (tgt := 23) (pc := 16) dX4_tryWrite_16 (by omega) (by decide) (fun c16 => ?_) (fun c16 => ?_)
    · skip
      have h_o : oc (n_st ν) p v = -1 := by omega
      have h_z : dwv (n_st ν) p v x = -1 := by unfold dwv; rw [if_pos (Or.inl h_o)]
      refine g_iconst (pc := 23) dX4_tryWrite_23 ?_
      refine g_istore (pc := 24) dX4_tryWrite_24 (by decide) rfl ?_
      simp only [List.set_cons_succ, List.set_cons_zero]
      refine g_iload (pc := 26) dX4_tryWrite_26 rfl ?_
      refine g_z_eq (tgt := 39) (pc := 28) dX4_tryWrite_28 (by omega) (by decide) (fun c28 => ?_) (fun c28 => absurd c28 (by omega))
      refine g_iload (pc := 39) dX4_tryWrite_39 rfl ?_
      refine g_zret (pc := 41) rfl dX4_tryWrite_41 (by omega) (fun h => h) ?_
      first
      | (refine dt_i ?_ (congrArg (fun z => cW κ (dE (n_setst ν z)) o) ?_)
         · rw [b2_t (b := decide (dwv (n_st ν) p v x ≠ -1)) (decide_eq_true (by unfold dwv; rw [if_neg (by omega)]; exact h_o))]
         · unfold dw; rw [if_neg (by omega)])
      | (refine dt_i ?_ (Eq.trans (b := cW κ (dE (n_setst ν (n_st ν))) o) rfl (congrArg (fun z => cW κ (dE (n_setst ν z)) o) ?_))
         · rw [b2_f (b := decide (dwv (n_st ν) p v x ≠ -1)) (fun q => absurd (of_decide_eq_true q) (by rw [h_z]; decide))]
         · unfold dw; rw [if_pos (Or.inl h_o)])
    · skip
      have h_o : oc (n_st ν) p v ≠ -1 := by omega
      refine g_iconst (pc := 19) dX4_tryWrite_19 ?_
      refine g_goto (tgt := 24) (pc := 20) dX4_tryWrite_20 (by decide) ?_
      refine g_istore (pc := 24) dX4_tryWrite_24 (by decide) rfl ?_
      simp only [List.set_cons_succ, List.set_cons_zero]
      refine g_iload (pc := 26) dX4_tryWrite_26 rfl ?_
      refine g_z_eq (tgt := 39) (pc := 28) dX4_tryWrite_28 (by omega) (by decide) (fun c28 => absurd c28 (by omega)) (fun c28 => ?_)
      refine g_aload_n (i := 0) (pc := 31) dX4_tryWrite_31 rfl rfl ?_
      refine g_iload_n (i := 1) (pc := 32) dX4_tryWrite_32 rfl rfl ?_
      refine g_iload_n (i := 2) (pc := 33) dX4_tryWrite_33 rfl rfl ?_
      refine g_iload_n (i := 3) (pc := 34) dX4_tryWrite_34 rfl rfl ?_
      refine g_v3 (pc := 35) okV_X4_written rfl l_X4_179 dX4_tryWrite_35 (c_79) hc_4 (by decide) (by decide) (Nat.le_of_ble_eq_true rfl) (t_X4_written hi h_pg h_o h_x) (by rw [c_len, c_len]) ?_
      simp only [Option.toList, List.cons_append, List.nil_append]
      have bb := oc_rng (n_st ν) (p) (v)
      refine g_pop (pc := 38) dX4_tryWrite_38 (fun z h => nomatch h) ?_
      refine g_iload (pc := 39) dX4_tryWrite_39 rfl ?_
      refine g_zret (pc := 41) rfl dX4_tryWrite_41 (by omega) (fun h => h) ?_
      first
      | (refine dt_i ?_ (congrArg (fun z => cW κ (dE (n_setst ν z)) o) ?_)
         · rw [b2_t (b := decide (dwv (n_st ν) p v x ≠ -1)) (decide_eq_true (by unfold dwv; rw [if_neg (by omega)]; exact h_o))]
         · unfold dw; rw [if_neg (by omega)])
      | (refine dt_i ?_ (Eq.trans (b := cW κ (dE (n_setst ν (n_st ν))) o) rfl (congrArg (fun z => cW κ (dE (n_setst ν z)) o) ?_))
         · rw [b2_f (b := decide (dwv (n_st ν) p v x ≠ -1)) (fun q => absurd (of_decide_eq_true q) (by rw [h_z]; decide))]
         · unfold dw; rw [if_pos (Or.inl h_o)])
set_option maxRecDepth 20000 in
set_option maxHeartbeats 4000000 in
theorem t_X4_tryFork {κ : KT} {ν : NT} {o : Nat → Int} {al : Bool} (hi : Inv (n_st ν)) {p : Int} (h_p : -2147483648 ≤ p ∧ p < 2147483648) : GM M_X4_tryFork al [vR 79, vI p] (cW κ (dE ν) o) 0 0 (dt (some (vI (b2 (decide (dfv (n_st ν) p ≠ -1))))) (cW κ (dE (n_setst ν (df (n_st ν) p))) o)) := by
  show G _ none _ _ 0 [some (vR 79), some (vI p), none] [] _ _ _ _
  refine g_aload_n (i := 0) (pc := 0) dX4_tryFork_0 rfl rfl ?_
  refine g_iload_n (i := 1) (pc := 1) dX4_tryFork_1 rfl rfl ?_
  refine g_v1 (pc := 2) okV_X4_whyNotForked rfl l_X4_183 dX4_tryFork_2 (c_79) hc_4 (by decide) (by decide) (Nat.le_of_ble_eq_true rfl) (t_X4_whyNotForked hi (by omega)) rfl ?_
  simp only [Option.toList, List.cons_append, List.nil_append]
  have bb := xc_fk_rng (n_st ν) (p)
  refine g_z_ne (tgt := 12) (pc := 5) dX4_tryFork_5 (by omega) (by decide) (fun c5 => ?_) (fun c5 => ?_)
  · skip
    have h_c : ¬ canF (n_st ν) p = true := fun q => absurd (xc_fk0.mpr q) (by omega)
    refine g_iconst (pc := 12) dX4_tryFork_12 ?_
    refine g_istore_n (i := 2) (pc := 13) dX4_tryFork_13 rfl (by decide) rfl ?_
    simp only [List.set_cons_succ, List.set_cons_zero]
    refine g_iload_n (i := 2) (pc := 14) dX4_tryFork_14 rfl rfl ?_
    refine g_z_eq (tgt := 24) (pc := 15) dX4_tryFork_15 (by omega) (by decide) (fun c15 => ?_) (fun c15 => absurd c15 (by omega))
    refine g_iload_n (i := 2) (pc := 24) dX4_tryFork_24 rfl rfl ?_
    refine g_zret (pc := 25) rfl dX4_tryFork_25 (by omega) (fun h => h) ?_
    first
    | (refine dt_i ?_ (congrArg (fun z => cW κ (dE (n_setst ν z)) o) ?_)
       · rw [b2_t (b := decide (dfv (n_st ν) p ≠ -1)) (decide_eq_true (dfv_ok.mpr h_c))]
       · unfold df; rw [if_pos h_c])
    | (refine dt_i ?_ (Eq.trans (b := cW κ (dE (n_setst ν (n_st ν))) o) rfl (congrArg (fun z => cW κ (dE (n_setst ν z)) o) ?_))
       · rw [b2_f (b := decide (dfv (n_st ν) p ≠ -1)) (fun q => absurd (of_decide_eq_true q) (fun q2 => h_c (dfv_ok.mp q2)))]
       · unfold df; rw [if_neg h_c])
  · skip
    have h_c : canF (n_st ν) p = true := xc_fk0.mp (by omega)
    refine g_iconst (pc := 8) dX4_tryFork_8 ?_
    refine g_goto (tgt := 13) (pc := 9) dX4_tryFork_9 (by decide) ?_
    refine g_istore_n (i := 2) (pc := 13) dX4_tryFork_13 rfl (by decide) rfl ?_
    simp only [List.set_cons_succ, List.set_cons_zero]
    refine g_iload_n (i := 2) (pc := 14) dX4_tryFork_14 rfl rfl ?_
    refine g_z_eq (tgt := 24) (pc := 15) dX4_tryFork_15 (by omega) (by decide) (fun c15 => absurd c15 (by omega)) (fun c15 => ?_)
    refine g_aload_n (i := 0) (pc := 18) dX4_tryFork_18 rfl rfl ?_
    refine g_iload_n (i := 1) (pc := 19) dX4_tryFork_19 rfl rfl ?_
    refine g_v1 (pc := 20) okV_X4_forked rfl l_X4_186 dX4_tryFork_20 (c_79) hc_4 (by decide) (by decide) (Nat.le_of_ble_eq_true rfl) (t_X4_forked hi h_c) (by rw [c_len, c_len]) ?_
    simp only [Option.toList, List.cons_append, List.nil_append]
    have bb := lup_rng (n_st ν)
    refine g_pop (pc := 23) dX4_tryFork_23 (fun z h => nomatch h) ?_
    refine g_iload_n (i := 2) (pc := 24) dX4_tryFork_24 rfl rfl ?_
    refine g_zret (pc := 25) rfl dX4_tryFork_25 (by omega) (fun h => h) ?_
    first
    | (refine dt_i ?_ (congrArg (fun z => cW κ (dE (n_setst ν z)) o) ?_)
       · rw [b2_t (b := decide (dfv (n_st ν) p ≠ -1)) (decide_eq_true (dfv_ok.mpr h_c))]
       · unfold df; rw [if_pos h_c])
    | (refine dt_i ?_ (Eq.trans (b := cW κ (dE (n_setst ν (n_st ν))) o) rfl (congrArg (fun z => cW κ (dE (n_setst ν z)) o) ?_))
       · rw [b2_f (b := decide (dfv (n_st ν) p ≠ -1)) (fun q => absurd (of_decide_eq_true q) (fun q2 => h_c (dfv_ok.mp q2)))]
       · unfold df; rw [if_neg h_c])
set_option maxRecDepth 20000 in
set_option maxHeartbeats 4000000 in
theorem t_X4_tryExit {κ : KT} {ν : NT} {o : Nat → Int} {al : Bool} (hi : Inv (n_st ν)) {p : Int} (h_p : -2147483648 ≤ p ∧ p < 2147483648) : GM M_X4_tryExit al [vR 79, vI p] (cW κ (dE ν) o) 0 0 (dt (some (vI (b2 (decide (dev (n_st ν) p ≠ -1))))) (cW κ (dE (n_setst ν (de (n_st ν) p))) o)) := by
  show G _ none _ _ 0 [some (vR 79), some (vI p), none] [] _ _ _ _
  refine g_aload_n (i := 0) (pc := 0) dX4_tryExit_0 rfl rfl ?_
  refine g_iload_n (i := 1) (pc := 1) dX4_tryExit_1 rfl rfl ?_
  refine g_v1 (pc := 2) okV_X4_whyNotEnded rfl l_X4_189 dX4_tryExit_2 (c_79) hc_4 (by decide) (by decide) (Nat.le_of_ble_eq_true rfl) (t_X4_whyNotEnded hi (by omega)) rfl ?_
  simp only [Option.toList, List.cons_append, List.nil_append]
  have bb := xc_ex_rng (n_st ν) (p)
  refine g_z_ne (tgt := 12) (pc := 5) dX4_tryExit_5 (by omega) (by decide) (fun c5 => ?_) (fun c5 => ?_)
  · skip
    have h_c : ¬ canE (n_st ν) p = true := fun q => absurd (xc_ex0.mpr q) (by omega)
    refine g_iconst (pc := 12) dX4_tryExit_12 ?_
    refine g_istore_n (i := 2) (pc := 13) dX4_tryExit_13 rfl (by decide) rfl ?_
    simp only [List.set_cons_succ, List.set_cons_zero]
    refine g_iload_n (i := 2) (pc := 14) dX4_tryExit_14 rfl rfl ?_
    refine g_z_eq (tgt := 24) (pc := 15) dX4_tryExit_15 (by omega) (by decide) (fun c15 => ?_) (fun c15 => absurd c15 (by omega))
    refine g_iload_n (i := 2) (pc := 24) dX4_tryExit_24 rfl rfl ?_
    refine g_zret (pc := 25) rfl dX4_tryExit_25 (by omega) (fun h => h) ?_
    first
    | (refine dt_i ?_ (congrArg (fun z => cW κ (dE (n_setst ν z)) o) ?_)
       · rw [b2_t (b := decide (dev (n_st ν) p ≠ -1)) (decide_eq_true ((dev_ok hi).mpr h_c))]
       · unfold de; rw [if_pos h_c])
    | (refine dt_i ?_ (Eq.trans (b := cW κ (dE (n_setst ν (n_st ν))) o) rfl (congrArg (fun z => cW κ (dE (n_setst ν z)) o) ?_))
       · rw [b2_f (b := decide (dev (n_st ν) p ≠ -1)) (fun q => absurd (of_decide_eq_true q) (fun q2 => h_c ((dev_ok hi).mp q2)))]
       · unfold de; rw [if_neg h_c])
  · skip
    have h_c : canE (n_st ν) p = true := xc_ex0.mp (by omega)
    refine g_iconst (pc := 8) dX4_tryExit_8 ?_
    refine g_goto (tgt := 13) (pc := 9) dX4_tryExit_9 (by decide) ?_
    refine g_istore_n (i := 2) (pc := 13) dX4_tryExit_13 rfl (by decide) rfl ?_
    simp only [List.set_cons_succ, List.set_cons_zero]
    refine g_iload_n (i := 2) (pc := 14) dX4_tryExit_14 rfl rfl ?_
    refine g_z_eq (tgt := 24) (pc := 15) dX4_tryExit_15 (by omega) (by decide) (fun c15 => absurd c15 (by omega)) (fun c15 => ?_)
    refine g_aload_n (i := 0) (pc := 18) dX4_tryExit_18 rfl rfl ?_
    refine g_iload_n (i := 1) (pc := 19) dX4_tryExit_19 rfl rfl ?_
    refine g_v1 (pc := 20) okV_X4_ended rfl l_X4_192 dX4_tryExit_20 (c_79) hc_4 (by decide) (by decide) (Nat.le_of_ble_eq_true rfl) (t_X4_ended hi (canE_p h_c)) (by rw [c_len, c_len]) ?_
    simp only [Option.toList, List.cons_append, List.nil_append]
    refine g_pop (pc := 23) dX4_tryExit_23 (fun z h => nomatch h) ?_
    refine g_iload_n (i := 2) (pc := 24) dX4_tryExit_24 rfl rfl ?_
    refine g_zret (pc := 25) rfl dX4_tryExit_25 (by omega) (fun h => h) ?_
    first
    | (refine dt_i ?_ (congrArg (fun z => cW κ (dE (n_setst ν z)) o) ?_)
       · rw [b2_t (b := decide (dev (n_st ν) p ≠ -1)) (decide_eq_true ((dev_ok hi).mpr h_c))]
       · unfold de; rw [if_pos h_c])
    | (refine dt_i ?_ (Eq.trans (b := cW κ (dE (n_setst ν (n_st ν))) o) rfl (congrArg (fun z => cW κ (dE (n_setst ν z)) o) ?_))
       · rw [b2_f (b := decide (dev (n_st ν) p ≠ -1)) (fun q => absurd (of_decide_eq_true q) (fun q2 => h_c ((dev_ok hi).mp q2)))]
       · unfold de; rw [if_neg h_c])
set_option maxRecDepth 20000 in
set_option maxHeartbeats 4000000 in
theorem t_X4_tryMarry {κ : KT} {ν : NT} {o : Nat → Int} {al : Bool} (hi : Inv (n_st ν)) {p g : Int} (h_p : -2147483648 ≤ p ∧ p < 2147483648) (h_g : -2147483648 ≤ g ∧ g < 2147483648) : GM M_X4_tryMarry al [vR 79, vI p, vI g] (cW κ (dE ν) o) 0 0 (dt (some (vI (b2 (decide (dmv (n_st ν) p g ≠ -1))))) (cW κ (dE (n_setst ν (dm (n_st ν) p g))) o)) := by
  show G _ none _ _ 0 [some (vR 79), some (vI p), some (vI g), none] [] _ _ _ _
  refine g_aload_n (i := 0) (pc := 0) dX4_tryMarry_0 rfl rfl ?_
  refine g_iload_n (i := 1) (pc := 1) dX4_tryMarry_1 rfl rfl ?_
  refine g_iload_n (i := 2) (pc := 2) dX4_tryMarry_2 rfl rfl ?_
  refine g_v2 (pc := 3) okV_X4_isGroup rfl l_X4_169 dX4_tryMarry_3 (c_79) hc_4 (by decide) (by decide) (Nat.le_of_ble_eq_true rfl) (t_X4_isGroup hi (by omega) (by omega)) rfl ?_
  simp only [Option.toList, List.cons_append, List.nil_append]
  have bb := b2_rng (hasGr (n_st ν) (p) (g))
  refine g_z_eq (tgt := 22) (pc := 6) dX4_tryMarry_6 (by omega) (by decide) (fun c6 => ?_) (fun c6 => ?_)
  · skip
    have h_c : ¬ (hasGr (n_st ν) p g = true ∧ wn (n_st ν) p g = 0) := by
      rintro ⟨q1, q2⟩
      have q3 := b2_1.mpr q1
      omega
    refine g_iconst (pc := 22) dX4_tryMarry_22 ?_
    refine g_istore_n (i := 3) (pc := 23) dX4_tryMarry_23 rfl (by decide) rfl ?_
    simp only [List.set_cons_succ, List.set_cons_zero]
    refine g_iload_n (i := 3) (pc := 24) dX4_tryMarry_24 rfl rfl ?_
    refine g_z_eq (tgt := 35) (pc := 25) dX4_tryMarry_25 (by omega) (by decide) (fun c25 => ?_) (fun c25 => absurd c25 (by omega))
    refine g_iload_n (i := 3) (pc := 35) dX4_tryMarry_35 rfl rfl ?_
    refine g_zret (pc := 36) rfl dX4_tryMarry_36 (by omega) (fun h => h) ?_
    first
    | (refine dt_i ?_ (congrArg (fun z => cW κ (dE (n_setst ν z)) o) ?_)
       · rw [b2_t (b := decide (dmv (n_st ν) p g ≠ -1)) (decide_eq_true (by unfold dmv; rw [if_pos ⟨h_gr, h_w⟩]; split <;> omega))]
       · unfold dm; rw [if_pos ⟨h_gr, h_w⟩])
    | (refine dt_i ?_ (Eq.trans (b := cW κ (dE (n_setst ν (n_st ν))) o) rfl (congrArg (fun z => cW κ (dE (n_setst ν z)) o) ?_))
       · rw [b2_f (b := decide (dmv (n_st ν) p g ≠ -1)) (fun q => absurd (of_decide_eq_true q) (by unfold dmv; rw [if_neg h_c]; decide))]
       · unfold dm; rw [if_neg h_c])
  · skip
    have h_gr := b2_1.mp (show b2 (hasGr (n_st ν) p g) = 1 by omega)
    obtain ⟨⟨h_p1, h_p2, h_e⟩, h_g1, h_g2⟩ := ex_gr h_gr
    refine g_aload_n (i := 0) (pc := 9) dX4_tryMarry_9 rfl rfl ?_
    refine g_iload_n (i := 1) (pc := 10) dX4_tryMarry_10 rfl rfl ?_
    refine g_iload_n (i := 2) (pc := 11) dX4_tryMarry_11 rfl rfl ?_
    refine g_v2 (pc := 12) okV_X4_whyNoMarriage rfl l_X4_195 dX4_tryMarry_12 (c_79) hc_4 (by decide) (by decide) (Nat.le_of_ble_eq_true rfl) (t_X4_whyNoMarriage hi (by omega) (by omega)) rfl ?_
    simp only [Option.toList, List.cons_append, List.nil_append]
    have bb := wn_rng (n_st ν) (p) (g)
    refine g_z_ne (tgt := 22) (pc := 15) dX4_tryMarry_15 (by omega) (by decide) (fun c15 => ?_) (fun c15 => ?_)
    · skip
      have h_c : ¬ (hasGr (n_st ν) p g = true ∧ wn (n_st ν) p g = 0) := by
        rintro ⟨q1, q2⟩
        have q3 := b2_1.mpr q1
        omega
      refine g_iconst (pc := 22) dX4_tryMarry_22 ?_
      refine g_istore_n (i := 3) (pc := 23) dX4_tryMarry_23 rfl (by decide) rfl ?_
      simp only [List.set_cons_succ, List.set_cons_zero]
      refine g_iload_n (i := 3) (pc := 24) dX4_tryMarry_24 rfl rfl ?_
      refine g_z_eq (tgt := 35) (pc := 25) dX4_tryMarry_25 (by omega) (by decide) (fun c25 => ?_) (fun c25 => absurd c25 (by omega))
      refine g_iload_n (i := 3) (pc := 35) dX4_tryMarry_35 rfl rfl ?_
      refine g_zret (pc := 36) rfl dX4_tryMarry_36 (by omega) (fun h => h) ?_
      first
      | (refine dt_i ?_ (congrArg (fun z => cW κ (dE (n_setst ν z)) o) ?_)
         · rw [b2_t (b := decide (dmv (n_st ν) p g ≠ -1)) (decide_eq_true (by unfold dmv; rw [if_pos ⟨h_gr, h_w⟩]; split <;> omega))]
         · unfold dm; rw [if_pos ⟨h_gr, h_w⟩])
      | (refine dt_i ?_ (Eq.trans (b := cW κ (dE (n_setst ν (n_st ν))) o) rfl (congrArg (fun z => cW κ (dE (n_setst ν z)) o) ?_))
         · rw [b2_f (b := decide (dmv (n_st ν) p g ≠ -1)) (fun q => absurd (of_decide_eq_true q) (by unfold dmv; rw [if_neg h_c]; decide))]
         · unfold dm; rw [if_neg h_c])
    · skip
      have h_w : wn (n_st ν) p g = 0 := by omega
      refine g_iconst (pc := 18) dX4_tryMarry_18 ?_
      refine g_goto (tgt := 23) (pc := 19) dX4_tryMarry_19 (by decide) ?_
      refine g_istore_n (i := 3) (pc := 23) dX4_tryMarry_23 rfl (by decide) rfl ?_
      simp only [List.set_cons_succ, List.set_cons_zero]
      refine g_iload_n (i := 3) (pc := 24) dX4_tryMarry_24 rfl rfl ?_
      refine g_z_eq (tgt := 35) (pc := 25) dX4_tryMarry_25 (by omega) (by decide) (fun c25 => absurd c25 (by omega)) (fun c25 => ?_)
      refine g_aload_n (i := 0) (pc := 28) dX4_tryMarry_28 rfl rfl ?_
      refine g_iload_n (i := 1) (pc := 29) dX4_tryMarry_29 rfl rfl ?_
      refine g_iload_n (i := 2) (pc := 30) dX4_tryMarry_30 rfl rfl ?_
      refine g_v2 (pc := 31) okV_X4_married rfl l_X4_198 dX4_tryMarry_31 (c_79) hc_4 (by decide) (by decide) (Nat.le_of_ble_eq_true rfl) (t_X4_married hi h_gr h_w) (by rw [c_len, c_len]) ?_
      simp only [Option.toList, List.cons_append, List.nil_append]
      refine g_pop (pc := 34) dX4_tryMarry_34 (fun z h => nomatch h) ?_
      refine g_iload_n (i := 3) (pc := 35) dX4_tryMarry_35 rfl rfl ?_
      refine g_zret (pc := 36) rfl dX4_tryMarry_36 (by omega) (fun h => h) ?_
      first
      | (refine dt_i ?_ (congrArg (fun z => cW κ (dE (n_setst ν z)) o) ?_)
         · rw [b2_t (b := decide (dmv (n_st ν) p g ≠ -1)) (decide_eq_true (by unfold dmv; rw [if_pos ⟨h_gr, h_w⟩]; split <;> omega))]
         · unfold dm; rw [if_pos ⟨h_gr, h_w⟩])
      | (refine dt_i ?_ (Eq.trans (b := cW κ (dE (n_setst ν (n_st ν))) o) rfl (congrArg (fun z => cW κ (dE (n_setst ν z)) o) ?_))
         · rw [b2_f (b := decide (dmv (n_st ν) p g ≠ -1)) (fun q => absurd (of_decide_eq_true q) (by unfold dmv; rw [if_neg h_c]; decide))]
         · unfold dm; rw [if_neg h_c])
set_option maxRecDepth 20000 in
set_option maxHeartbeats 4000000 in
theorem t_X4_tryTear {κ : KT} {ν : NT} {o : Nat → Int} {al : Bool} (hi : Inv (n_st ν)) {p g : Int} (h_p : -2147483648 ≤ p ∧ p < 2147483648) (h_g : -2147483648 ≤ g ∧ g < 2147483648) : GM M_X4_tryTear al [vR 79, vI p, vI g] (cW κ (dE ν) o) 0 0 (dt (some (vI (b2 (decide (ro (n_st ν) p g ≠ -1))))) (cW κ (dE (n_setst ν (dtt (n_st ν) p g))) o)) := by
  show G _ none _ _ 0 [some (vR 79), some (vI p), some (vI g), none] [] _ _ _ _
  refine g_aload_n (i := 0) (pc := 0) dX4_tryTear_0 rfl rfl ?_
  refine g_iload_n (i := 1) (pc := 1) dX4_tryTear_1 rfl rfl ?_
  refine g_iload_n (i := 2) (pc := 2) dX4_tryTear_2 rfl rfl ?_
  refine g_v2 (pc := 3) okV_X4_isGroup rfl l_X4_169 dX4_tryTear_3 (c_79) hc_4 (by decide) (by decide) (Nat.le_of_ble_eq_true rfl) (t_X4_isGroup hi (by omega) (by omega)) rfl ?_
  simp only [Option.toList, List.cons_append, List.nil_append]
  have bb := b2_rng (hasGr (n_st ν) (p) (g))
  refine g_z_eq (tgt := 22) (pc := 6) dX4_tryTear_6 (by omega) (by decide) (fun c6 => ?_) (fun c6 => ?_)
  · skip
    have h_b : ¬ big (n_st ν) p g = true := fun q => absurd (b2_1.mpr (big_gr hi q)) (by omega)
    have h_r : ro (n_st ν) p g = -1 := by
      unfold ro
      rw [if_neg h_b]
    refine g_iconst (pc := 22) dX4_tryTear_22 ?_
    refine g_istore_n (i := 3) (pc := 23) dX4_tryTear_23 rfl (by decide) rfl ?_
    simp only [List.set_cons_succ, List.set_cons_zero]
    refine g_iload_n (i := 3) (pc := 24) dX4_tryTear_24 rfl rfl ?_
    refine g_z_eq (tgt := 35) (pc := 25) dX4_tryTear_25 (by omega) (by decide) (fun c25 => ?_) (fun c25 => absurd c25 (by omega))
    refine g_iload_n (i := 3) (pc := 35) dX4_tryTear_35 rfl rfl ?_
    refine g_zret (pc := 36) rfl dX4_tryTear_36 (by omega) (fun h => h) ?_
    first
    | (refine dt_i ?_ (congrArg (fun z => cW κ (dE (n_setst ν z)) o) ?_)
       · rw [b2_t (b := decide (ro (n_st ν) p g ≠ -1)) (decide_eq_true h_r)]
       · unfold dtt; rw [if_neg h_r])
    | (refine dt_i ?_ (Eq.trans (b := cW κ (dE (n_setst ν (n_st ν))) o) rfl (congrArg (fun z => cW κ (dE (n_setst ν z)) o) ?_))
       · rw [b2_f (b := decide (ro (n_st ν) p g ≠ -1)) (fun q => absurd (of_decide_eq_true q) (by omega))]
       · unfold dtt; rw [if_pos h_r])
  · skip
    have h_gr := b2_1.mp (show b2 (hasGr (n_st ν) p g) = 1 by omega)
    obtain ⟨⟨h_p1, h_p2, h_e⟩, h_g1, h_g2⟩ := ex_gr h_gr
    refine g_aload_n (i := 0) (pc := 9) dX4_tryTear_9 rfl rfl ?_
    refine g_iload_n (i := 1) (pc := 10) dX4_tryTear_10 rfl rfl ?_
    refine g_iload_n (i := 2) (pc := 11) dX4_tryTear_11 rfl rfl ?_
    refine g_v2 (pc := 12) okV_X4_isBig rfl l_X4_60 dX4_tryTear_12 (c_79) hc_4 (by decide) (by decide) (Nat.le_of_ble_eq_true rfl) (t_X4_isBig hi (by omega) (by omega)) rfl ?_
    simp only [Option.toList, List.cons_append, List.nil_append]
    have bb := b2_rng (big (n_st ν) (p) (g))
    refine g_z_eq (tgt := 22) (pc := 15) dX4_tryTear_15 (by omega) (by decide) (fun c15 => ?_) (fun c15 => ?_)
    · skip
      have h_b := b2_0.mp (show b2 (big (n_st ν) p g) = 0 by omega)
      have h_r : ro (n_st ν) p g = -1 := by
        unfold ro
        rw [if_neg h_b]
      refine g_iconst (pc := 22) dX4_tryTear_22 ?_
      refine g_istore_n (i := 3) (pc := 23) dX4_tryTear_23 rfl (by decide) rfl ?_
      simp only [List.set_cons_succ, List.set_cons_zero]
      refine g_iload_n (i := 3) (pc := 24) dX4_tryTear_24 rfl rfl ?_
      refine g_z_eq (tgt := 35) (pc := 25) dX4_tryTear_25 (by omega) (by decide) (fun c25 => ?_) (fun c25 => absurd c25 (by omega))
      refine g_iload_n (i := 3) (pc := 35) dX4_tryTear_35 rfl rfl ?_
      refine g_zret (pc := 36) rfl dX4_tryTear_36 (by omega) (fun h => h) ?_
      first
      | (refine dt_i ?_ (congrArg (fun z => cW κ (dE (n_setst ν z)) o) ?_)
         · rw [b2_t (b := decide (ro (n_st ν) p g ≠ -1)) (decide_eq_true h_r)]
         · unfold dtt; rw [if_neg h_r])
      | (refine dt_i ?_ (Eq.trans (b := cW κ (dE (n_setst ν (n_st ν))) o) rfl (congrArg (fun z => cW κ (dE (n_setst ν z)) o) ?_))
         · rw [b2_f (b := decide (ro (n_st ν) p g ≠ -1)) (fun q => absurd (of_decide_eq_true q) (by omega))]
         · unfold dtt; rw [if_pos h_r])
    · skip
      have h_r : ro (n_st ν) p g ≠ -1 := ro_b hi (b2_1.mp (show b2 (big (n_st ν) p g) = 1 by omega))
      refine g_iconst (pc := 18) dX4_tryTear_18 ?_
      refine g_goto (tgt := 23) (pc := 19) dX4_tryTear_19 (by decide) ?_
      refine g_istore_n (i := 3) (pc := 23) dX4_tryTear_23 rfl (by decide) rfl ?_
      simp only [List.set_cons_succ, List.set_cons_zero]
      refine g_iload_n (i := 3) (pc := 24) dX4_tryTear_24 rfl rfl ?_
      refine g_z_eq (tgt := 35) (pc := 25) dX4_tryTear_25 (by omega) (by decide) (fun c25 => absurd c25 (by omega)) (fun c25 => ?_)
      refine g_aload_n (i := 0) (pc := 28) dX4_tryTear_28 rfl rfl ?_
      refine g_iload_n (i := 1) (pc := 29) dX4_tryTear_29 rfl rfl ?_
      refine g_iload_n (i := 2) (pc := 30) dX4_tryTear_30 rfl rfl ?_
      refine g_v2 (pc := 31) okV_X4_torn rfl l_X4_121 dX4_tryTear_31 (c_79) hc_4 (by decide) (by decide) (Nat.le_of_ble_eq_true rfl) (t_X4_torn hi (by omega) (by omega)) (by rw [c_len, c_len]) ?_
      simp only [Option.toList, List.cons_append, List.nil_append]
      have bb := ro_rng (σ := (n_st ν)) hi (p) (g)
      refine g_pop (pc := 34) dX4_tryTear_34 (fun z h => nomatch h) ?_
      refine g_iload_n (i := 3) (pc := 35) dX4_tryTear_35 rfl rfl ?_
      refine g_zret (pc := 36) rfl dX4_tryTear_36 (by omega) (fun h => h) ?_
      first
      | (refine dt_i ?_ (congrArg (fun z => cW κ (dE (n_setst ν z)) o) ?_)
         · rw [b2_t (b := decide (ro (n_st ν) p g ≠ -1)) (decide_eq_true h_r)]
         · unfold dtt; rw [if_neg h_r])
      | (refine dt_i ?_ (Eq.trans (b := cW κ (dE (n_setst ν (n_st ν))) o) rfl (congrArg (fun z => cW κ (dE (n_setst ν z)) o) ?_))
         · rw [b2_f (b := decide (ro (n_st ν) p g ≠ -1)) (fun q => absurd (of_decide_eq_true q) (by omega))]
         · unfold dtt; rw [if_pos h_r])
set_option maxRecDepth 20000 in
set_option maxHeartbeats 4000000 in
theorem t_X4_tryPress {κ : KT} {ν : NT} {o : Nat → Int} {al : Bool} (hi : Inv (n_st ν)) {n : Int} (h_n : -2147483648 ≤ n ∧ n < 2147483648) : GM M_X4_tryPress al [vR 79, vI n] (cW κ (dE ν) o) 0 0 (dt (some (vI (b2 (decide (dpv (n_st ν) n ≠ -1))))) (cW κ (dE (n_setst ν (dp (n_st ν) n))) o)) := by
  show G _ none _ _ 0 [some (vR 79), some (vI n), none] [] _ _ _ _
  refine g_iload_n (i := 1) (pc := 0) dX4_tryPress_0 rfl rfl ?_
  refine g_iconst (pc := 1) dX4_tryPress_1 ?_
  refine g_bipush (pc := 2) dX4_tryPress_2 (by decide) ?_
  refine g_s3 (pc := 4) okS_X4_within rfl l_X4_38 dX4_tryPress_4 (by decide) (by decide) (Nat.le_of_ble_eq_true rfl) (t_X4_within (by omega) (by omega) (by omega)) rfl ?_
  simp only [Option.toList, List.cons_append, List.nil_append]
  have bb := b2_rng (decide (1 ≤ n ∧ n ≤ 32))
  have b1 := b2_dec (p := 1 ≤ n ∧ n ≤ 32)
  refine g_istore_n (i := 2) (pc := 7) dX4_tryPress_7 rfl (by decide) rfl ?_
  simp only [List.set_cons_succ, List.set_cons_zero]
  refine g_iload_n (i := 2) (pc := 8) dX4_tryPress_8 rfl rfl ?_
  refine g_z_eq (tgt := 18) (pc := 9) dX4_tryPress_9 (by omega) (by decide) (fun c9 => ?_) (fun c9 => ?_)
  · skip
    refine g_iload_n (i := 2) (pc := 18) dX4_tryPress_18 rfl rfl ?_
    refine g_zret (pc := 19) rfl dX4_tryPress_19 (by omega) (fun h => h) ?_
    first
    | (refine dt_i ?_ (congrArg (fun z => cW κ (dE (n_setst ν z)) o) ?_)
       · rw [b2_t (b := decide (1 ≤ n ∧ n ≤ 32)) (decide_eq_true (by omega)), b2_t (b := decide (dpv (n_st ν) n ≠ -1)) (decide_eq_true (by unfold dpv; rw [if_pos (by omega)]; have := nff_rng (s_pre (n_st ν) n); omega))]
       · unfold dp; rw [if_pos (by omega)])
    | (refine dt_i ?_ (Eq.trans (b := cW κ (dE (n_setst ν (n_st ν))) o) rfl (congrArg (fun z => cW κ (dE (n_setst ν z)) o) ?_))
       · rw [b2_f (b := decide (1 ≤ n ∧ n ≤ 32)) (fun q => absurd (of_decide_eq_true q) (by omega)), b2_f (b := decide (dpv (n_st ν) n ≠ -1)) (fun q => absurd (of_decide_eq_true q) (by unfold dpv; rw [if_neg (by omega)]; decide))]
       · unfold dp; rw [if_neg (by omega)])
  · skip
    refine g_aload_n (i := 0) (pc := 12) dX4_tryPress_12 rfl rfl ?_
    refine g_iload_n (i := 1) (pc := 13) dX4_tryPress_13 rfl rfl ?_
    refine g_v1 (pc := 14) okV_X4_pressed rfl l_X4_201 dX4_tryPress_14 (c_79) hc_4 (by decide) (by decide) (Nat.le_of_ble_eq_true rfl) (t_X4_pressed hi (by omega)) (by rw [c_len, c_len]) ?_
    simp only [Option.toList, List.cons_append, List.nil_append]
    have bb := nff_rng (s_pre (n_st ν) (n))
    refine g_pop (pc := 17) dX4_tryPress_17 (fun z h => nomatch h) ?_
    refine g_iload_n (i := 2) (pc := 18) dX4_tryPress_18 rfl rfl ?_
    refine g_zret (pc := 19) rfl dX4_tryPress_19 (by omega) (fun h => h) ?_
    first
    | (refine dt_i ?_ (congrArg (fun z => cW κ (dE (n_setst ν z)) o) ?_)
       · rw [b2_t (b := decide (1 ≤ n ∧ n ≤ 32)) (decide_eq_true (by omega)), b2_t (b := decide (dpv (n_st ν) n ≠ -1)) (decide_eq_true (by unfold dpv; rw [if_pos (by omega)]; have := nff_rng (s_pre (n_st ν) n); omega))]
       · unfold dp; rw [if_pos (by omega)])
    | (refine dt_i ?_ (Eq.trans (b := cW κ (dE (n_setst ν (n_st ν))) o) rfl (congrArg (fun z => cW κ (dE (n_setst ν z)) o) ?_))
       · rw [b2_f (b := decide (1 ≤ n ∧ n ≤ 32)) (fun q => absurd (of_decide_eq_true q) (by omega)), b2_f (b := decide (dpv (n_st ν) n ≠ -1)) (fun q => absurd (of_decide_eq_true q) (by unfold dpv; rw [if_neg (by omega)]; decide))]
       · unfold dp; rw [if_neg (by omega)])
set_option maxRecDepth 20000 in
set_option maxHeartbeats 4000000 in
theorem t_X4_hasValue {κ : KT} {ν : NT} {o : Nat → Int} {al : Bool} (hi : Inv (n_st ν)) {p v : Int} (h_p : -2147483648 ≤ p ∧ p < 2147483648) (h_v : -2147483648 ≤ v ∧ v < 2147483648) {x : Int} (h_x : 0 ≤ x ∧ x < 100) : GM M_X4_hasValue al [vR 79, vI p, vI v, vI x] (cW κ (dE ν) o) 0 0 (dt (some (vI (b2 (decide (b2 (hasPg (n_st ν) p v) = 1 ∧ vo (n_st ν) p v = x))))) (cW κ (dE (ν)) o)) := by
  show G _ none _ _ 0 [some (vR 79), some (vI p), some (vI v), some (vI x)] [] _ _ _ _
  refine g_aload_n (i := 0) (pc := 0) dX4_hasValue_0 rfl rfl ?_
  refine g_iload_n (i := 1) (pc := 1) dX4_hasValue_1 rfl rfl ?_
  refine g_iload_n (i := 2) (pc := 2) dX4_hasValue_2 rfl rfl ?_
  refine g_v2 (pc := 3) okV_X4_isPage rfl l_X4_166 dX4_hasValue_3 (c_79) hc_4 (by decide) (by decide) (Nat.le_of_ble_eq_true rfl) (t_X4_isPage hi (by omega) (by omega)) rfl ?_
  simp only [Option.toList, List.cons_append, List.nil_append]
  have bb := b2_rng (hasPg (n_st ν) (p) (v))
  refine g_z_eq (tgt := 37) (pc := 6) dX4_hasValue_6 (by omega) (by decide) (fun c6 => ?_) (fun c6 => ?_)
  · skip
    refine g_iconst (pc := 37) dX4_hasValue_37 ?_
    refine g_zret (pc := 38) rfl dX4_hasValue_38 (by omega) (fun h => h) ?_
    first
    | exact dt_i (b2_t (b := decide (b2 (hasPg (n_st ν) p v) = 1 ∧ vo (n_st ν) p v = x)) (decide_eq_true (by omega))).symm rfl
    | exact dt_i (b2_f (b := decide (b2 (hasPg (n_st ν) p v) = 1 ∧ vo (n_st ν) p v = x)) (fun q => absurd (of_decide_eq_true q) (by omega))).symm rfl
  · skip
    obtain ⟨⟨h_p1, h_p2, h_e⟩, h_v1, h_v2⟩ := ex_pg (b2_1.mp (show b2 (hasPg (n_st ν) p v) = 1 by omega))
    refine g_aload_n (i := 0) (pc := 9) dX4_hasValue_9 rfl rfl ?_
    refine g_iload_n (i := 1) (pc := 10) dX4_hasValue_10 rfl rfl ?_
    refine g_iload_n (i := 2) (pc := 11) dX4_hasValue_11 rfl rfl ?_
    refine g_v2 (pc := 12) okV_X4_frameOf rfl l_X4_53 dX4_hasValue_12 (c_79) hc_4 (by decide) (by decide) (Nat.le_of_ble_eq_true rfl) (t_X4_frameOf hi (by omega) (by omega)) rfl ?_
    simp only [Option.toList, List.cons_append, List.nil_append]
    have bb := fo_rng (σ := (n_st ν)) hi (p) (v)
    refine g_iconst (pc := 15) dX4_hasValue_15 ?_
    refine g_c_eq (tgt := 37) (pc := 16) dX4_hasValue_16 (by omega) (by decide) (fun c16 => ?_) (fun c16 => ?_)
    · skip
      have h_v : vo (n_st ν) p v = -1 := by unfold vo; rw [if_pos (by omega)]
      refine g_iconst (pc := 37) dX4_hasValue_37 ?_
      refine g_zret (pc := 38) rfl dX4_hasValue_38 (by omega) (fun h => h) ?_
      first
      | exact dt_i (b2_t (b := decide (b2 (hasPg (n_st ν) p v) = 1 ∧ vo (n_st ν) p v = x)) (decide_eq_true (by omega))).symm rfl
      | exact dt_i (b2_f (b := decide (b2 (hasPg (n_st ν) p v) = 1 ∧ vo (n_st ν) p v = x)) (fun q => absurd (of_decide_eq_true q) (by omega))).symm rfl
    · skip
      have h_v : vo (n_st ν) p v = s_va (n_st ν) (fo (n_st ν) p v).toNat := by unfold vo; rw [if_neg (by omega)]
      refine g_aload_n (i := 0) (pc := 19) dX4_hasValue_19 rfl rfl ?_
      refine g_aload_n (i := 0) (pc := 20) dX4_hasValue_20 rfl rfl ?_
      refine g_iload_n (i := 1) (pc := 21) dX4_hasValue_21 rfl rfl ?_
      refine g_iload_n (i := 2) (pc := 22) dX4_hasValue_22 rfl rfl ?_
      refine g_v2 (pc := 23) okV_X4_frameOf rfl l_X4_53 dX4_hasValue_23 (c_79) hc_4 (by decide) (by decide) (Nat.le_of_ble_eq_true rfl) (t_X4_frameOf hi (by omega) (by omega)) rfl ?_
      simp only [Option.toList, List.cons_append, List.nil_append]
      have bb := fo_rng (σ := (n_st ν)) hi (p) (v)
      refine g_v1 (pc := 26) okV_X4_valueOf rfl l_X4_109 dX4_hasValue_26 (c_79) hc_4 (by decide) (by decide) (Nat.le_of_ble_eq_true rfl) (t_X4_valueOf hi (by omega)) rfl ?_
      simp only [Option.toList, List.cons_append, List.nil_append]
      have bb := va_rng (σ := (n_st ν)) hi ((fo (n_st ν) (p) (v)))
      refine g_iload_n (i := 3) (pc := 29) dX4_hasValue_29 rfl rfl ?_
      refine g_c_ne (tgt := 37) (pc := 30) dX4_hasValue_30 (by omega) (by decide) (fun c30 => ?_) (fun c30 => ?_)
      · skip
        refine g_iconst (pc := 37) dX4_hasValue_37 ?_
        refine g_zret (pc := 38) rfl dX4_hasValue_38 (by omega) (fun h => h) ?_
        first
        | exact dt_i (b2_t (b := decide (b2 (hasPg (n_st ν) p v) = 1 ∧ vo (n_st ν) p v = x)) (decide_eq_true (by omega))).symm rfl
        | exact dt_i (b2_f (b := decide (b2 (hasPg (n_st ν) p v) = 1 ∧ vo (n_st ν) p v = x)) (fun q => absurd (of_decide_eq_true q) (by omega))).symm rfl
      · skip
        refine g_iconst (pc := 33) dX4_hasValue_33 ?_
        refine g_goto (tgt := 38) (pc := 34) dX4_hasValue_34 (by decide) ?_
        refine g_zret (pc := 38) rfl dX4_hasValue_38 (by omega) (fun h => h) ?_
        first
        | exact dt_i (b2_t (b := decide (b2 (hasPg (n_st ν) p v) = 1 ∧ vo (n_st ν) p v = x)) (decide_eq_true (by omega))).symm rfl
        | exact dt_i (b2_f (b := decide (b2 (hasPg (n_st ν) p v) = 1 ∧ vo (n_st ν) p v = x)) (fun q => absurd (of_decide_eq_true q) (by omega))).symm rfl
set_option maxRecDepth 20000 in
set_option maxHeartbeats 4000000 in
theorem t_X4_commands {κ : KT} {ν : NT} {o : Nat → Int} {al : Bool} (hi : Inv (n_st ν)) {d : Int} (h_d : 0 ≤ d ∧ d < 100000) : GM M_X4_commands al [vR 79, vI d] (cW κ (dE ν) o) 0 0 (dt (some (vI (b2 (cV (n_st ν) d)))) (cW κ (dE (n_setst ν (cS (n_st ν) d))) o)) := by
  show G _ none _ _ 0 [some (vR 79), some (vI d), none, none, none, none, none] [] _ _ _ _
  refine g_iload_n (i := 1) (pc := 0) dX4_commands_0 rfl rfl ?_
  refine g_sipush (pc := 1) dX4_commands_1 (by decide) ?_
  refine g_idiv (pc := 4) dX4_commands_4 (by omega) (by omega) ?_
  refine G.eqS (congrArg (fun z => vI z) (Int.tdiv_eq_ediv_of_nonneg (by omega))) ?_
  refine g_bipush (pc := 5) dX4_commands_5 (by decide) ?_
  refine g_irem (pc := 7) dX4_commands_7 (by omega) (by omega) ?_
  refine G.eqS (congrArg (fun z => vI z) (Int.tmod_eq_emod_of_nonneg (by omega))) ?_
  refine g_istore_n (i := 2) (pc := 8) dX4_commands_8 rfl (by decide) rfl ?_
  simp only [List.set_cons_succ, List.set_cons_zero]
  refine g_iload_n (i := 1) (pc := 9) dX4_commands_9 rfl rfl ?_
  refine g_bipush (pc := 10) dX4_commands_10 (by decide) ?_
  refine g_idiv (pc := 12) dX4_commands_12 (by omega) (by omega) ?_
  refine G.eqS (congrArg (fun z => vI z) (Int.tdiv_eq_ediv_of_nonneg (by omega))) ?_
  refine g_bipush (pc := 13) dX4_commands_13 (by decide) ?_
  refine g_irem (pc := 15) dX4_commands_15 (by omega) (by omega) ?_
  refine G.eqS (congrArg (fun z => vI z) (Int.tmod_eq_emod_of_nonneg (by omega))) ?_
  refine g_istore_n (i := 3) (pc := 16) dX4_commands_16 rfl (by decide) rfl ?_
  simp only [List.set_cons_succ, List.set_cons_zero]
  refine g_iload_n (i := 1) (pc := 17) dX4_commands_17 rfl rfl ?_
  refine g_bipush (pc := 18) dX4_commands_18 (by decide) ?_
  refine g_idiv (pc := 20) dX4_commands_20 (by omega) (by omega) ?_
  refine G.eqS (congrArg (fun z => vI z) (Int.tdiv_eq_ediv_of_nonneg (by omega))) ?_
  refine g_bipush (pc := 21) dX4_commands_21 (by decide) ?_
  refine g_irem (pc := 23) dX4_commands_23 (by omega) (by omega) ?_
  refine G.eqS (congrArg (fun z => vI z) (Int.tmod_eq_emod_of_nonneg (by omega))) ?_
  refine g_istore (pc := 24) dX4_commands_24 (by decide) rfl ?_
  simp only [List.set_cons_succ, List.set_cons_zero]
  refine g_iload_n (i := 1) (pc := 26) dX4_commands_26 rfl rfl ?_
  refine g_bipush (pc := 27) dX4_commands_27 (by decide) ?_
  refine g_irem (pc := 29) dX4_commands_29 (by omega) (by omega) ?_
  refine G.eqS (congrArg (fun z => vI z) (Int.tmod_eq_emod_of_nonneg (by omega))) ?_
  refine g_istore (pc := 30) dX4_commands_30 (by decide) rfl ?_
  simp only [List.set_cons_succ, List.set_cons_zero]
  refine g_iload_n (i := 1) (pc := 32) dX4_commands_32 rfl rfl ?_
  refine g_bipush (pc := 33) dX4_commands_33 (by decide) ?_
  refine g_irem (pc := 35) dX4_commands_35 (by omega) (by omega) ?_
  refine G.eqS (congrArg (fun z => vI z) (Int.tmod_eq_emod_of_nonneg (by omega))) ?_
  refine g_istore (pc := 36) dX4_commands_36 (by decide) rfl ?_
  simp only [List.set_cons_succ, List.set_cons_zero]
  refine g_iload_n (i := 1) (pc := 38) dX4_commands_38 rfl rfl ?_
  refine g_sipush (pc := 39) dX4_commands_39 (by decide) ?_
  refine g_idiv (pc := 42) dX4_commands_42 (by omega) (by omega) ?_
  refine G.eqS (congrArg (fun z => vI z) (Int.tdiv_eq_ediv_of_nonneg (by omega))) ?_
  by_cases sw43 : 1 ≤ (d / 10000) ∧ (d / 10000) ≤ 9
  · rcases (by omega : (d / 10000) = 1 ∨ (d / 10000) = 2 ∨ (d / 10000) = 3 ∨ (d / 10000) = 4 ∨ (d / 10000) = 5 ∨ (d / 10000) = 6 ∨ (d / 10000) = 7 ∨ (d / 10000) = 8 ∨ (d / 10000) = 9) with ew43 | ew43 | ew43 | ew43 | ew43 | ew43 | ew43 | ew43 | ew43
    · refine g_tsIn (tgt := 92) (pc := 43) dX4_commands_43 (by omega) (by omega) (by omega) (by rw [ew43]; rfl) (by decide) ?_
      refine g_aload_n (i := 0) (pc := 92) dX4_commands_92 rfl rfl ?_
      refine g_iload_n (i := 2) (pc := 93) dX4_commands_93 rfl rfl ?_
      refine g_iload (pc := 94) dX4_commands_94 rfl ?_
      refine g_iload (pc := 96) dX4_commands_96 rfl ?_
      refine g_v3 (pc := 98) okV_X4_tryWrite rfl l_X4_142 dX4_commands_98 (c_79) hc_4 (by decide) (by decide) (Nat.le_of_ble_eq_true rfl) (t_X4_tryWrite hi (by omega) (by omega) (by omega)) (by rw [c_len, c_len]) ?_
      simp only [Option.toList, List.cons_append, List.nil_append]
      have bb := b2_rng (decide (dwv (n_st ν) ((d / 1000 % 10)) ((d / 10 % 100)) ((d % 10)) ≠ -1))
      have hi0 := hi
      have hi := inv_dw (σ := (n_st ν)) hi ((d / 1000 % 10)) ((d / 10 % 100)) ((d % 10))
      refine g_zret (pc := 101) rfl dX4_commands_101 (by omega) (fun h => h) ?_
      refine dt_i ?_ (congrArg (fun z => cW κ (dE (n_setst ν z)) o) ?_)
      · refine congrArg b2 ?_
        unfold cV; rw [if_pos (by omega)]
      · unfold cS; rw [if_pos (by omega)]
    · refine g_tsIn (tgt := 102) (pc := 43) dX4_commands_43 (by omega) (by omega) (by omega) (by rw [ew43]; rfl) (by decide) ?_
      refine g_iload_n (i := 1) (pc := 102) dX4_commands_102 rfl rfl ?_
      refine g_sipush (pc := 103) dX4_commands_103 (by decide) ?_
      refine g_irem (pc := 106) dX4_commands_106 (by omega) (by omega) ?_
      refine G.eqS (congrArg (fun z => vI z) (Int.tmod_eq_emod_of_nonneg (by omega))) ?_
      refine g_z_ne (tgt := 122) (pc := 107) dX4_commands_107 (by omega) (by decide) (fun c107 => ?_) (fun c107 => ?_)
      · skip
        refine g_iconst (pc := 122) dX4_commands_122 ?_
        refine g_zret (pc := 123) rfl dX4_commands_123 (by omega) (fun h => h) ?_
        first
        | (refine dt_i ?_ (congrArg (fun z => cW κ (dE (n_setst ν z)) o) ?_)
           · rw [b2_t (b := cV (n_st ν) d) (by unfold cV; rw [if_neg (by omega), if_pos (by omega), decide_eq_true_eq]; omega)]
           · unfold cS; rw [if_neg (by omega), if_pos (by omega)]; first | (rw [if_pos (by omega)]; done) | (rw [if_neg (by omega)]; done))
        | (refine dt_i ?_ (congrArg (fun z => cW κ (dE (n_setst ν z)) o) ?_)
           · rw [b2_f (b := cV (n_st ν) d) (by unfold cV; rw [if_neg (by omega), if_pos (by omega), decide_eq_true_eq]; omega)]
           · unfold cS; rw [if_neg (by omega), if_pos (by omega)]; first | (rw [if_pos (by omega)]; done) | (rw [if_neg (by omega)]; done))
        | (refine dt_i ?_ (Eq.trans (b := cW κ (dE (n_setst ν (n_st ν))) o) rfl (congrArg (fun z => cW κ (dE (n_setst ν z)) o) ?_))
           · rw [b2_t (b := cV (n_st ν) d) (by unfold cV; rw [if_neg (by omega), if_pos (by omega), decide_eq_true_eq]; omega)]
           · unfold cS; rw [if_neg (by omega), if_pos (by omega)]; first | (rw [if_pos (by omega)]; done) | (rw [if_neg (by omega)]; done))
        | (refine dt_i ?_ (Eq.trans (b := cW κ (dE (n_setst ν (n_st ν))) o) rfl (congrArg (fun z => cW κ (dE (n_setst ν z)) o) ?_))
           · rw [b2_f (b := cV (n_st ν) d) (by unfold cV; rw [if_neg (by omega), if_pos (by omega), decide_eq_true_eq]; omega)]
           · unfold cS; rw [if_neg (by omega), if_pos (by omega)]; first | (rw [if_pos (by omega)]; done) | (rw [if_neg (by omega)]; done))
      · skip
        refine g_aload_n (i := 0) (pc := 110) dX4_commands_110 rfl rfl ?_
        refine g_iload_n (i := 2) (pc := 111) dX4_commands_111 rfl rfl ?_
        refine g_v1 (pc := 112) okV_X4_tryFork rfl l_X4_145 dX4_commands_112 (c_79) hc_4 (by decide) (by decide) (Nat.le_of_ble_eq_true rfl) (t_X4_tryFork hi (by omega)) (by rw [c_len, c_len]) ?_
        simp only [Option.toList, List.cons_append, List.nil_append]
        have bb := b2_rng (decide (dfv (n_st ν) ((d / 1000 % 10)) ≠ -1))
        have hi0 := hi
        have hi := inv_df (σ := (n_st ν)) hi ((d / 1000 % 10))
        have bd := b2_dec (p := dfv (n_st ν) (d / 1000 % 10) ≠ -1)
        refine g_z_eq (tgt := 122) (pc := 115) dX4_commands_115 (by omega) (by decide) (fun c115 => ?_) (fun c115 => ?_)
        · skip
          refine g_iconst (pc := 122) dX4_commands_122 ?_
          refine g_zret (pc := 123) rfl dX4_commands_123 (by omega) (fun h => h) ?_
          first
          | (refine dt_i ?_ (congrArg (fun z => cW κ (dE (n_setst ν z)) o) ?_)
             · rw [b2_t (b := cV (n_st ν) d) (by unfold cV; rw [if_neg (by omega), if_pos (by omega), decide_eq_true_eq]; omega)]
             · unfold cS; rw [if_neg (by omega), if_pos (by omega)]; first | (rw [if_pos (by omega)]; done) | (rw [if_neg (by omega)]; done))
          | (refine dt_i ?_ (congrArg (fun z => cW κ (dE (n_setst ν z)) o) ?_)
             · rw [b2_f (b := cV (n_st ν) d) (by unfold cV; rw [if_neg (by omega), if_pos (by omega), decide_eq_true_eq]; omega)]
             · unfold cS; rw [if_neg (by omega), if_pos (by omega)]; first | (rw [if_pos (by omega)]; done) | (rw [if_neg (by omega)]; done))
          | (refine dt_i ?_ (Eq.trans (b := cW κ (dE (n_setst ν (n_st ν))) o) rfl (congrArg (fun z => cW κ (dE (n_setst ν z)) o) ?_))
             · rw [b2_t (b := cV (n_st ν) d) (by unfold cV; rw [if_neg (by omega), if_pos (by omega), decide_eq_true_eq]; omega)]
             · unfold cS; rw [if_neg (by omega), if_pos (by omega)]; first | (rw [if_pos (by omega)]; done) | (rw [if_neg (by omega)]; done))
          | (refine dt_i ?_ (Eq.trans (b := cW κ (dE (n_setst ν (n_st ν))) o) rfl (congrArg (fun z => cW κ (dE (n_setst ν z)) o) ?_))
             · rw [b2_f (b := cV (n_st ν) d) (by unfold cV; rw [if_neg (by omega), if_pos (by omega), decide_eq_true_eq]; omega)]
             · unfold cS; rw [if_neg (by omega), if_pos (by omega)]; first | (rw [if_pos (by omega)]; done) | (rw [if_neg (by omega)]; done))
        · skip
          refine g_iconst (pc := 118) dX4_commands_118 ?_
          refine g_goto (tgt := 123) (pc := 119) dX4_commands_119 (by decide) ?_
          refine g_zret (pc := 123) rfl dX4_commands_123 (by omega) (fun h => h) ?_
          first
          | (refine dt_i ?_ (congrArg (fun z => cW κ (dE (n_setst ν z)) o) ?_)
             · rw [b2_t (b := cV (n_st ν) d) (by unfold cV; rw [if_neg (by omega), if_pos (by omega), decide_eq_true_eq]; omega)]
             · unfold cS; rw [if_neg (by omega), if_pos (by omega)]; first | (rw [if_pos (by omega)]; done) | (rw [if_neg (by omega)]; done))
          | (refine dt_i ?_ (congrArg (fun z => cW κ (dE (n_setst ν z)) o) ?_)
             · rw [b2_f (b := cV (n_st ν) d) (by unfold cV; rw [if_neg (by omega), if_pos (by omega), decide_eq_true_eq]; omega)]
             · unfold cS; rw [if_neg (by omega), if_pos (by omega)]; first | (rw [if_pos (by omega)]; done) | (rw [if_neg (by omega)]; done))
          | (refine dt_i ?_ (Eq.trans (b := cW κ (dE (n_setst ν (n_st ν))) o) rfl (congrArg (fun z => cW κ (dE (n_setst ν z)) o) ?_))
             · rw [b2_t (b := cV (n_st ν) d) (by unfold cV; rw [if_neg (by omega), if_pos (by omega), decide_eq_true_eq]; omega)]
             · unfold cS; rw [if_neg (by omega), if_pos (by omega)]; first | (rw [if_pos (by omega)]; done) | (rw [if_neg (by omega)]; done))
          | (refine dt_i ?_ (Eq.trans (b := cW κ (dE (n_setst ν (n_st ν))) o) rfl (congrArg (fun z => cW κ (dE (n_setst ν z)) o) ?_))
             · rw [b2_f (b := cV (n_st ν) d) (by unfold cV; rw [if_neg (by omega), if_pos (by omega), decide_eq_true_eq]; omega)]
             · unfold cS; rw [if_neg (by omega), if_pos (by omega)]; first | (rw [if_pos (by omega)]; done) | (rw [if_neg (by omega)]; done))
    · refine g_tsIn (tgt := 124) (pc := 43) dX4_commands_43 (by omega) (by omega) (by omega) (by rw [ew43]; rfl) (by decide) ?_
      refine g_iload_n (i := 1) (pc := 124) dX4_commands_124 rfl rfl ?_
      refine g_sipush (pc := 125) dX4_commands_125 (by decide) ?_
      refine g_irem (pc := 128) dX4_commands_128 (by omega) (by omega) ?_
      refine G.eqS (congrArg (fun z => vI z) (Int.tmod_eq_emod_of_nonneg (by omega))) ?_
      refine g_z_ne (tgt := 144) (pc := 129) dX4_commands_129 (by omega) (by decide) (fun c129 => ?_) (fun c129 => ?_)
      · skip
        refine g_iconst (pc := 144) dX4_commands_144 ?_
        refine g_zret (pc := 145) rfl dX4_commands_145 (by omega) (fun h => h) ?_
        first
        | (refine dt_i ?_ (congrArg (fun z => cW κ (dE (n_setst ν z)) o) ?_)
           · rw [b2_t (b := cV (n_st ν) d) (by unfold cV; rw [if_neg (by omega), if_neg (by omega), if_pos (by omega), decide_eq_true_eq]; omega)]
           · unfold cS; rw [if_neg (by omega), if_neg (by omega), if_pos (by omega)]; first | (rw [if_pos (by omega)]; done) | (rw [if_neg (by omega)]; done))
        | (refine dt_i ?_ (congrArg (fun z => cW κ (dE (n_setst ν z)) o) ?_)
           · rw [b2_f (b := cV (n_st ν) d) (by unfold cV; rw [if_neg (by omega), if_neg (by omega), if_pos (by omega), decide_eq_true_eq]; omega)]
           · unfold cS; rw [if_neg (by omega), if_neg (by omega), if_pos (by omega)]; first | (rw [if_pos (by omega)]; done) | (rw [if_neg (by omega)]; done))
        | (refine dt_i ?_ (Eq.trans (b := cW κ (dE (n_setst ν (n_st ν))) o) rfl (congrArg (fun z => cW κ (dE (n_setst ν z)) o) ?_))
           · rw [b2_t (b := cV (n_st ν) d) (by unfold cV; rw [if_neg (by omega), if_neg (by omega), if_pos (by omega), decide_eq_true_eq]; omega)]
           · unfold cS; rw [if_neg (by omega), if_neg (by omega), if_pos (by omega)]; first | (rw [if_pos (by omega)]; done) | (rw [if_neg (by omega)]; done))
        | (refine dt_i ?_ (Eq.trans (b := cW κ (dE (n_setst ν (n_st ν))) o) rfl (congrArg (fun z => cW κ (dE (n_setst ν z)) o) ?_))
           · rw [b2_f (b := cV (n_st ν) d) (by unfold cV; rw [if_neg (by omega), if_neg (by omega), if_pos (by omega), decide_eq_true_eq]; omega)]
           · unfold cS; rw [if_neg (by omega), if_neg (by omega), if_pos (by omega)]; first | (rw [if_pos (by omega)]; done) | (rw [if_neg (by omega)]; done))
      · skip
        refine g_aload_n (i := 0) (pc := 132) dX4_commands_132 rfl rfl ?_
        refine g_iload_n (i := 2) (pc := 133) dX4_commands_133 rfl rfl ?_
        refine g_v1 (pc := 134) okV_X4_tryExit rfl l_X4_148 dX4_commands_134 (c_79) hc_4 (by decide) (by decide) (Nat.le_of_ble_eq_true rfl) (t_X4_tryExit hi (by omega)) (by rw [c_len, c_len]) ?_
        simp only [Option.toList, List.cons_append, List.nil_append]
        have bb := b2_rng (decide (dev (n_st ν) ((d / 1000 % 10)) ≠ -1))
        have hi0 := hi
        have hi := inv_de (σ := (n_st ν)) hi ((d / 1000 % 10))
        have bd := b2_dec (p := dev (n_st ν) (d / 1000 % 10) ≠ -1)
        refine g_z_eq (tgt := 144) (pc := 137) dX4_commands_137 (by omega) (by decide) (fun c137 => ?_) (fun c137 => ?_)
        · skip
          refine g_iconst (pc := 144) dX4_commands_144 ?_
          refine g_zret (pc := 145) rfl dX4_commands_145 (by omega) (fun h => h) ?_
          first
          | (refine dt_i ?_ (congrArg (fun z => cW κ (dE (n_setst ν z)) o) ?_)
             · rw [b2_t (b := cV (n_st ν) d) (by unfold cV; rw [if_neg (by omega), if_neg (by omega), if_pos (by omega), decide_eq_true_eq]; omega)]
             · unfold cS; rw [if_neg (by omega), if_neg (by omega), if_pos (by omega)]; first | (rw [if_pos (by omega)]; done) | (rw [if_neg (by omega)]; done))
          | (refine dt_i ?_ (congrArg (fun z => cW κ (dE (n_setst ν z)) o) ?_)
             · rw [b2_f (b := cV (n_st ν) d) (by unfold cV; rw [if_neg (by omega), if_neg (by omega), if_pos (by omega), decide_eq_true_eq]; omega)]
             · unfold cS; rw [if_neg (by omega), if_neg (by omega), if_pos (by omega)]; first | (rw [if_pos (by omega)]; done) | (rw [if_neg (by omega)]; done))
          | (refine dt_i ?_ (Eq.trans (b := cW κ (dE (n_setst ν (n_st ν))) o) rfl (congrArg (fun z => cW κ (dE (n_setst ν z)) o) ?_))
             · rw [b2_t (b := cV (n_st ν) d) (by unfold cV; rw [if_neg (by omega), if_neg (by omega), if_pos (by omega), decide_eq_true_eq]; omega)]
             · unfold cS; rw [if_neg (by omega), if_neg (by omega), if_pos (by omega)]; first | (rw [if_pos (by omega)]; done) | (rw [if_neg (by omega)]; done))
          | (refine dt_i ?_ (Eq.trans (b := cW κ (dE (n_setst ν (n_st ν))) o) rfl (congrArg (fun z => cW κ (dE (n_setst ν z)) o) ?_))
             · rw [b2_f (b := cV (n_st ν) d) (by unfold cV; rw [if_neg (by omega), if_neg (by omega), if_pos (by omega), decide_eq_true_eq]; omega)]
             · unfold cS; rw [if_neg (by omega), if_neg (by omega), if_pos (by omega)]; first | (rw [if_pos (by omega)]; done) | (rw [if_neg (by omega)]; done))
        · skip
          refine g_iconst (pc := 140) dX4_commands_140 ?_
          refine g_goto (tgt := 145) (pc := 141) dX4_commands_141 (by decide) ?_
          refine g_zret (pc := 145) rfl dX4_commands_145 (by omega) (fun h => h) ?_
          first
          | (refine dt_i ?_ (congrArg (fun z => cW κ (dE (n_setst ν z)) o) ?_)
             · rw [b2_t (b := cV (n_st ν) d) (by unfold cV; rw [if_neg (by omega), if_neg (by omega), if_pos (by omega), decide_eq_true_eq]; omega)]
             · unfold cS; rw [if_neg (by omega), if_neg (by omega), if_pos (by omega)]; first | (rw [if_pos (by omega)]; done) | (rw [if_neg (by omega)]; done))
          | (refine dt_i ?_ (congrArg (fun z => cW κ (dE (n_setst ν z)) o) ?_)
             · rw [b2_f (b := cV (n_st ν) d) (by unfold cV; rw [if_neg (by omega), if_neg (by omega), if_pos (by omega), decide_eq_true_eq]; omega)]
             · unfold cS; rw [if_neg (by omega), if_neg (by omega), if_pos (by omega)]; first | (rw [if_pos (by omega)]; done) | (rw [if_neg (by omega)]; done))
          | (refine dt_i ?_ (Eq.trans (b := cW κ (dE (n_setst ν (n_st ν))) o) rfl (congrArg (fun z => cW κ (dE (n_setst ν z)) o) ?_))
             · rw [b2_t (b := cV (n_st ν) d) (by unfold cV; rw [if_neg (by omega), if_neg (by omega), if_pos (by omega), decide_eq_true_eq]; omega)]
             · unfold cS; rw [if_neg (by omega), if_neg (by omega), if_pos (by omega)]; first | (rw [if_pos (by omega)]; done) | (rw [if_neg (by omega)]; done))
          | (refine dt_i ?_ (Eq.trans (b := cW κ (dE (n_setst ν (n_st ν))) o) rfl (congrArg (fun z => cW κ (dE (n_setst ν z)) o) ?_))
             · rw [b2_f (b := cV (n_st ν) d) (by unfold cV; rw [if_neg (by omega), if_neg (by omega), if_pos (by omega), decide_eq_true_eq]; omega)]
             · unfold cS; rw [if_neg (by omega), if_neg (by omega), if_pos (by omega)]; first | (rw [if_pos (by omega)]; done) | (rw [if_neg (by omega)]; done))
    · refine g_tsIn (tgt := 146) (pc := 43) dX4_commands_43 (by omega) (by omega) (by omega) (by rw [ew43]; rfl) (by decide) ?_
      refine g_iload (pc := 146) dX4_commands_146 rfl ?_
      refine g_z_ne (tgt := 164) (pc := 148) dX4_commands_148 (by omega) (by decide) (fun c148 => ?_) (fun c148 => ?_)
      · skip
        refine g_iconst (pc := 164) dX4_commands_164 ?_
        refine g_zret (pc := 165) rfl dX4_commands_165 (by omega) (fun h => h) ?_
        first
        | (refine dt_i ?_ (congrArg (fun z => cW κ (dE (n_setst ν z)) o) ?_)
           · rw [b2_t (b := cV (n_st ν) d) (by unfold cV; rw [if_neg (by omega), if_neg (by omega), if_neg (by omega), if_pos (by omega), decide_eq_true_eq]; omega)]
           · unfold cS; rw [if_neg (by omega), if_neg (by omega), if_neg (by omega), if_pos (by omega)]; first | (rw [if_pos (by omega)]; done) | (rw [if_neg (by omega)]; done))
        | (refine dt_i ?_ (congrArg (fun z => cW κ (dE (n_setst ν z)) o) ?_)
           · rw [b2_f (b := cV (n_st ν) d) (by unfold cV; rw [if_neg (by omega), if_neg (by omega), if_neg (by omega), if_pos (by omega), decide_eq_true_eq]; omega)]
           · unfold cS; rw [if_neg (by omega), if_neg (by omega), if_neg (by omega), if_pos (by omega)]; first | (rw [if_pos (by omega)]; done) | (rw [if_neg (by omega)]; done))
        | (refine dt_i ?_ (Eq.trans (b := cW κ (dE (n_setst ν (n_st ν))) o) rfl (congrArg (fun z => cW κ (dE (n_setst ν z)) o) ?_))
           · rw [b2_t (b := cV (n_st ν) d) (by unfold cV; rw [if_neg (by omega), if_neg (by omega), if_neg (by omega), if_pos (by omega), decide_eq_true_eq]; omega)]
           · unfold cS; rw [if_neg (by omega), if_neg (by omega), if_neg (by omega), if_pos (by omega)]; first | (rw [if_pos (by omega)]; done) | (rw [if_neg (by omega)]; done))
        | (refine dt_i ?_ (Eq.trans (b := cW κ (dE (n_setst ν (n_st ν))) o) rfl (congrArg (fun z => cW κ (dE (n_setst ν z)) o) ?_))
           · rw [b2_f (b := cV (n_st ν) d) (by unfold cV; rw [if_neg (by omega), if_neg (by omega), if_neg (by omega), if_pos (by omega), decide_eq_true_eq]; omega)]
           · unfold cS; rw [if_neg (by omega), if_neg (by omega), if_neg (by omega), if_pos (by omega)]; first | (rw [if_pos (by omega)]; done) | (rw [if_neg (by omega)]; done))
      · skip
        refine g_aload_n (i := 0) (pc := 151) dX4_commands_151 rfl rfl ?_
        refine g_iload_n (i := 2) (pc := 152) dX4_commands_152 rfl rfl ?_
        refine g_iload_n (i := 3) (pc := 153) dX4_commands_153 rfl rfl ?_
        refine g_v2 (pc := 154) okV_X4_tryMarry rfl l_X4_151 dX4_commands_154 (c_79) hc_4 (by decide) (by decide) (Nat.le_of_ble_eq_true rfl) (t_X4_tryMarry hi (by omega) (by omega)) (by rw [c_len, c_len]) ?_
        simp only [Option.toList, List.cons_append, List.nil_append]
        have bb := b2_rng (decide (dmv (n_st ν) ((d / 1000 % 10)) ((d / 100 % 10)) ≠ -1))
        have hi0 := hi
        have hi := inv_dm (σ := (n_st ν)) hi ((d / 1000 % 10)) ((d / 100 % 10))
        have bd := b2_dec (p := dmv (n_st ν) (d / 1000 % 10) (d / 100 % 10) ≠ -1)
        refine g_z_eq (tgt := 164) (pc := 157) dX4_commands_157 (by omega) (by decide) (fun c157 => ?_) (fun c157 => ?_)
        · skip
          refine g_iconst (pc := 164) dX4_commands_164 ?_
          refine g_zret (pc := 165) rfl dX4_commands_165 (by omega) (fun h => h) ?_
          first
          | (refine dt_i ?_ (congrArg (fun z => cW κ (dE (n_setst ν z)) o) ?_)
             · rw [b2_t (b := cV (n_st ν) d) (by unfold cV; rw [if_neg (by omega), if_neg (by omega), if_neg (by omega), if_pos (by omega), decide_eq_true_eq]; omega)]
             · unfold cS; rw [if_neg (by omega), if_neg (by omega), if_neg (by omega), if_pos (by omega)]; first | (rw [if_pos (by omega)]; done) | (rw [if_neg (by omega)]; done))
          | (refine dt_i ?_ (congrArg (fun z => cW κ (dE (n_setst ν z)) o) ?_)
             · rw [b2_f (b := cV (n_st ν) d) (by unfold cV; rw [if_neg (by omega), if_neg (by omega), if_neg (by omega), if_pos (by omega), decide_eq_true_eq]; omega)]
             · unfold cS; rw [if_neg (by omega), if_neg (by omega), if_neg (by omega), if_pos (by omega)]; first | (rw [if_pos (by omega)]; done) | (rw [if_neg (by omega)]; done))
          | (refine dt_i ?_ (Eq.trans (b := cW κ (dE (n_setst ν (n_st ν))) o) rfl (congrArg (fun z => cW κ (dE (n_setst ν z)) o) ?_))
             · rw [b2_t (b := cV (n_st ν) d) (by unfold cV; rw [if_neg (by omega), if_neg (by omega), if_neg (by omega), if_pos (by omega), decide_eq_true_eq]; omega)]
             · unfold cS; rw [if_neg (by omega), if_neg (by omega), if_neg (by omega), if_pos (by omega)]; first | (rw [if_pos (by omega)]; done) | (rw [if_neg (by omega)]; done))
          | (refine dt_i ?_ (Eq.trans (b := cW κ (dE (n_setst ν (n_st ν))) o) rfl (congrArg (fun z => cW κ (dE (n_setst ν z)) o) ?_))
             · rw [b2_f (b := cV (n_st ν) d) (by unfold cV; rw [if_neg (by omega), if_neg (by omega), if_neg (by omega), if_pos (by omega), decide_eq_true_eq]; omega)]
             · unfold cS; rw [if_neg (by omega), if_neg (by omega), if_neg (by omega), if_pos (by omega)]; first | (rw [if_pos (by omega)]; done) | (rw [if_neg (by omega)]; done))
        · skip
          refine g_iconst (pc := 160) dX4_commands_160 ?_
          refine g_goto (tgt := 165) (pc := 161) dX4_commands_161 (by decide) ?_
          refine g_zret (pc := 165) rfl dX4_commands_165 (by omega) (fun h => h) ?_
          first
          | (refine dt_i ?_ (congrArg (fun z => cW κ (dE (n_setst ν z)) o) ?_)
             · rw [b2_t (b := cV (n_st ν) d) (by unfold cV; rw [if_neg (by omega), if_neg (by omega), if_neg (by omega), if_pos (by omega), decide_eq_true_eq]; omega)]
             · unfold cS; rw [if_neg (by omega), if_neg (by omega), if_neg (by omega), if_pos (by omega)]; first | (rw [if_pos (by omega)]; done) | (rw [if_neg (by omega)]; done))
          | (refine dt_i ?_ (congrArg (fun z => cW κ (dE (n_setst ν z)) o) ?_)
             · rw [b2_f (b := cV (n_st ν) d) (by unfold cV; rw [if_neg (by omega), if_neg (by omega), if_neg (by omega), if_pos (by omega), decide_eq_true_eq]; omega)]
             · unfold cS; rw [if_neg (by omega), if_neg (by omega), if_neg (by omega), if_pos (by omega)]; first | (rw [if_pos (by omega)]; done) | (rw [if_neg (by omega)]; done))
          | (refine dt_i ?_ (Eq.trans (b := cW κ (dE (n_setst ν (n_st ν))) o) rfl (congrArg (fun z => cW κ (dE (n_setst ν z)) o) ?_))
             · rw [b2_t (b := cV (n_st ν) d) (by unfold cV; rw [if_neg (by omega), if_neg (by omega), if_neg (by omega), if_pos (by omega), decide_eq_true_eq]; omega)]
             · unfold cS; rw [if_neg (by omega), if_neg (by omega), if_neg (by omega), if_pos (by omega)]; first | (rw [if_pos (by omega)]; done) | (rw [if_neg (by omega)]; done))
          | (refine dt_i ?_ (Eq.trans (b := cW κ (dE (n_setst ν (n_st ν))) o) rfl (congrArg (fun z => cW κ (dE (n_setst ν z)) o) ?_))
             · rw [b2_f (b := cV (n_st ν) d) (by unfold cV; rw [if_neg (by omega), if_neg (by omega), if_neg (by omega), if_pos (by omega), decide_eq_true_eq]; omega)]
             · unfold cS; rw [if_neg (by omega), if_neg (by omega), if_neg (by omega), if_pos (by omega)]; first | (rw [if_pos (by omega)]; done) | (rw [if_neg (by omega)]; done))
    · refine g_tsIn (tgt := 166) (pc := 43) dX4_commands_43 (by omega) (by omega) (by omega) (by rw [ew43]; rfl) (by decide) ?_
      refine g_iload (pc := 166) dX4_commands_166 rfl ?_
      refine g_z_ne (tgt := 184) (pc := 168) dX4_commands_168 (by omega) (by decide) (fun c168 => ?_) (fun c168 => ?_)
      · skip
        refine g_iconst (pc := 184) dX4_commands_184 ?_
        refine g_zret (pc := 185) rfl dX4_commands_185 (by omega) (fun h => h) ?_
        first
        | (refine dt_i ?_ (congrArg (fun z => cW κ (dE (n_setst ν z)) o) ?_)
           · rw [b2_t (b := cV (n_st ν) d) (by unfold cV; rw [if_neg (by omega), if_neg (by omega), if_neg (by omega), if_neg (by omega), if_pos (by omega), decide_eq_true_eq]; omega)]
           · unfold cS; rw [if_neg (by omega), if_neg (by omega), if_neg (by omega), if_neg (by omega), if_pos (by omega)]; first | (rw [if_pos (by omega)]; done) | (rw [if_neg (by omega)]; done))
        | (refine dt_i ?_ (congrArg (fun z => cW κ (dE (n_setst ν z)) o) ?_)
           · rw [b2_f (b := cV (n_st ν) d) (by unfold cV; rw [if_neg (by omega), if_neg (by omega), if_neg (by omega), if_neg (by omega), if_pos (by omega), decide_eq_true_eq]; omega)]
           · unfold cS; rw [if_neg (by omega), if_neg (by omega), if_neg (by omega), if_neg (by omega), if_pos (by omega)]; first | (rw [if_pos (by omega)]; done) | (rw [if_neg (by omega)]; done))
        | (refine dt_i ?_ (Eq.trans (b := cW κ (dE (n_setst ν (n_st ν))) o) rfl (congrArg (fun z => cW κ (dE (n_setst ν z)) o) ?_))
           · rw [b2_t (b := cV (n_st ν) d) (by unfold cV; rw [if_neg (by omega), if_neg (by omega), if_neg (by omega), if_neg (by omega), if_pos (by omega), decide_eq_true_eq]; omega)]
           · unfold cS; rw [if_neg (by omega), if_neg (by omega), if_neg (by omega), if_neg (by omega), if_pos (by omega)]; first | (rw [if_pos (by omega)]; done) | (rw [if_neg (by omega)]; done))
        | (refine dt_i ?_ (Eq.trans (b := cW κ (dE (n_setst ν (n_st ν))) o) rfl (congrArg (fun z => cW κ (dE (n_setst ν z)) o) ?_))
           · rw [b2_f (b := cV (n_st ν) d) (by unfold cV; rw [if_neg (by omega), if_neg (by omega), if_neg (by omega), if_neg (by omega), if_pos (by omega), decide_eq_true_eq]; omega)]
           · unfold cS; rw [if_neg (by omega), if_neg (by omega), if_neg (by omega), if_neg (by omega), if_pos (by omega)]; first | (rw [if_pos (by omega)]; done) | (rw [if_neg (by omega)]; done))
      · skip
        refine g_aload_n (i := 0) (pc := 171) dX4_commands_171 rfl rfl ?_
        refine g_iload_n (i := 2) (pc := 172) dX4_commands_172 rfl rfl ?_
        refine g_iload_n (i := 3) (pc := 173) dX4_commands_173 rfl rfl ?_
        refine g_v2 (pc := 174) okV_X4_tryTear rfl l_X4_208 dX4_commands_174 (c_79) hc_4 (by decide) (by decide) (Nat.le_of_ble_eq_true rfl) (t_X4_tryTear hi (by omega) (by omega)) (by rw [c_len, c_len]) ?_
        simp only [Option.toList, List.cons_append, List.nil_append]
        have bb := b2_rng (decide (ro (n_st ν) ((d / 1000 % 10)) ((d / 100 % 10)) ≠ -1))
        have hi0 := hi
        have hi := inv_dtt (σ := (n_st ν)) hi ((d / 1000 % 10)) ((d / 100 % 10))
        have bd := b2_dec (p := ro (n_st ν) (d / 1000 % 10) (d / 100 % 10) ≠ -1)
        refine g_z_eq (tgt := 184) (pc := 177) dX4_commands_177 (by omega) (by decide) (fun c177 => ?_) (fun c177 => ?_)
        · skip
          refine g_iconst (pc := 184) dX4_commands_184 ?_
          refine g_zret (pc := 185) rfl dX4_commands_185 (by omega) (fun h => h) ?_
          first
          | (refine dt_i ?_ (congrArg (fun z => cW κ (dE (n_setst ν z)) o) ?_)
             · rw [b2_t (b := cV (n_st ν) d) (by unfold cV; rw [if_neg (by omega), if_neg (by omega), if_neg (by omega), if_neg (by omega), if_pos (by omega), decide_eq_true_eq]; omega)]
             · unfold cS; rw [if_neg (by omega), if_neg (by omega), if_neg (by omega), if_neg (by omega), if_pos (by omega)]; first | (rw [if_pos (by omega)]; done) | (rw [if_neg (by omega)]; done))
          | (refine dt_i ?_ (congrArg (fun z => cW κ (dE (n_setst ν z)) o) ?_)
             · rw [b2_f (b := cV (n_st ν) d) (by unfold cV; rw [if_neg (by omega), if_neg (by omega), if_neg (by omega), if_neg (by omega), if_pos (by omega), decide_eq_true_eq]; omega)]
             · unfold cS; rw [if_neg (by omega), if_neg (by omega), if_neg (by omega), if_neg (by omega), if_pos (by omega)]; first | (rw [if_pos (by omega)]; done) | (rw [if_neg (by omega)]; done))
          | (refine dt_i ?_ (Eq.trans (b := cW κ (dE (n_setst ν (n_st ν))) o) rfl (congrArg (fun z => cW κ (dE (n_setst ν z)) o) ?_))
             · rw [b2_t (b := cV (n_st ν) d) (by unfold cV; rw [if_neg (by omega), if_neg (by omega), if_neg (by omega), if_neg (by omega), if_pos (by omega), decide_eq_true_eq]; omega)]
             · unfold cS; rw [if_neg (by omega), if_neg (by omega), if_neg (by omega), if_neg (by omega), if_pos (by omega)]; first | (rw [if_pos (by omega)]; done) | (rw [if_neg (by omega)]; done))
          | (refine dt_i ?_ (Eq.trans (b := cW κ (dE (n_setst ν (n_st ν))) o) rfl (congrArg (fun z => cW κ (dE (n_setst ν z)) o) ?_))
             · rw [b2_f (b := cV (n_st ν) d) (by unfold cV; rw [if_neg (by omega), if_neg (by omega), if_neg (by omega), if_neg (by omega), if_pos (by omega), decide_eq_true_eq]; omega)]
             · unfold cS; rw [if_neg (by omega), if_neg (by omega), if_neg (by omega), if_neg (by omega), if_pos (by omega)]; first | (rw [if_pos (by omega)]; done) | (rw [if_neg (by omega)]; done))
        · skip
          refine g_iconst (pc := 180) dX4_commands_180 ?_
          refine g_goto (tgt := 185) (pc := 181) dX4_commands_181 (by decide) ?_
          refine g_zret (pc := 185) rfl dX4_commands_185 (by omega) (fun h => h) ?_
          first
          | (refine dt_i ?_ (congrArg (fun z => cW κ (dE (n_setst ν z)) o) ?_)
             · rw [b2_t (b := cV (n_st ν) d) (by unfold cV; rw [if_neg (by omega), if_neg (by omega), if_neg (by omega), if_neg (by omega), if_pos (by omega), decide_eq_true_eq]; omega)]
             · unfold cS; rw [if_neg (by omega), if_neg (by omega), if_neg (by omega), if_neg (by omega), if_pos (by omega)]; first | (rw [if_pos (by omega)]; done) | (rw [if_neg (by omega)]; done))
          | (refine dt_i ?_ (congrArg (fun z => cW κ (dE (n_setst ν z)) o) ?_)
             · rw [b2_f (b := cV (n_st ν) d) (by unfold cV; rw [if_neg (by omega), if_neg (by omega), if_neg (by omega), if_neg (by omega), if_pos (by omega), decide_eq_true_eq]; omega)]
             · unfold cS; rw [if_neg (by omega), if_neg (by omega), if_neg (by omega), if_neg (by omega), if_pos (by omega)]; first | (rw [if_pos (by omega)]; done) | (rw [if_neg (by omega)]; done))
          | (refine dt_i ?_ (Eq.trans (b := cW κ (dE (n_setst ν (n_st ν))) o) rfl (congrArg (fun z => cW κ (dE (n_setst ν z)) o) ?_))
             · rw [b2_t (b := cV (n_st ν) d) (by unfold cV; rw [if_neg (by omega), if_neg (by omega), if_neg (by omega), if_neg (by omega), if_pos (by omega), decide_eq_true_eq]; omega)]
             · unfold cS; rw [if_neg (by omega), if_neg (by omega), if_neg (by omega), if_neg (by omega), if_pos (by omega)]; first | (rw [if_pos (by omega)]; done) | (rw [if_neg (by omega)]; done))
          | (refine dt_i ?_ (Eq.trans (b := cW κ (dE (n_setst ν (n_st ν))) o) rfl (congrArg (fun z => cW κ (dE (n_setst ν z)) o) ?_))
             · rw [b2_f (b := cV (n_st ν) d) (by unfold cV; rw [if_neg (by omega), if_neg (by omega), if_neg (by omega), if_neg (by omega), if_pos (by omega), decide_eq_true_eq]; omega)]
             · unfold cS; rw [if_neg (by omega), if_neg (by omega), if_neg (by omega), if_neg (by omega), if_pos (by omega)]; first | (rw [if_pos (by omega)]; done) | (rw [if_neg (by omega)]; done))
    · refine g_tsIn (tgt := 186) (pc := 43) dX4_commands_43 (by omega) (by omega) (by omega) (by rw [ew43]; rfl) (by decide) ?_
      refine g_iload_n (i := 2) (pc := 186) dX4_commands_186 rfl rfl ?_
      refine g_z_ne (tgt := 207) (pc := 187) dX4_commands_187 (by omega) (by decide) (fun c187 => ?_) (fun c187 => ?_)
      · skip
        refine g_iconst (pc := 207) dX4_commands_207 ?_
        refine g_zret (pc := 208) rfl dX4_commands_208 (by omega) (fun h => h) ?_
        first
        | (refine dt_i ?_ (congrArg (fun z => cW κ (dE (n_setst ν z)) o) ?_)
           · rw [b2_t (b := cV (n_st ν) d) (by unfold cV; rw [if_neg (by omega), if_neg (by omega), if_neg (by omega), if_neg (by omega), if_neg (by omega), if_pos (by omega), decide_eq_true_eq]; omega)]
           · unfold cS; rw [if_neg (by omega), if_neg (by omega), if_neg (by omega), if_neg (by omega), if_neg (by omega), if_pos (by omega)]; first | (rw [if_pos (by omega)]; done) | (rw [if_neg (by omega)]; done))
        | (refine dt_i ?_ (congrArg (fun z => cW κ (dE (n_setst ν z)) o) ?_)
           · rw [b2_f (b := cV (n_st ν) d) (by unfold cV; rw [if_neg (by omega), if_neg (by omega), if_neg (by omega), if_neg (by omega), if_neg (by omega), if_pos (by omega), decide_eq_true_eq]; omega)]
           · unfold cS; rw [if_neg (by omega), if_neg (by omega), if_neg (by omega), if_neg (by omega), if_neg (by omega), if_pos (by omega)]; first | (rw [if_pos (by omega)]; done) | (rw [if_neg (by omega)]; done))
        | (refine dt_i ?_ (Eq.trans (b := cW κ (dE (n_setst ν (n_st ν))) o) rfl (congrArg (fun z => cW κ (dE (n_setst ν z)) o) ?_))
           · rw [b2_t (b := cV (n_st ν) d) (by unfold cV; rw [if_neg (by omega), if_neg (by omega), if_neg (by omega), if_neg (by omega), if_neg (by omega), if_pos (by omega), decide_eq_true_eq]; omega)]
           · unfold cS; rw [if_neg (by omega), if_neg (by omega), if_neg (by omega), if_neg (by omega), if_neg (by omega), if_pos (by omega)]; first | (rw [if_pos (by omega)]; done) | (rw [if_neg (by omega)]; done))
        | (refine dt_i ?_ (Eq.trans (b := cW κ (dE (n_setst ν (n_st ν))) o) rfl (congrArg (fun z => cW κ (dE (n_setst ν z)) o) ?_))
           · rw [b2_f (b := cV (n_st ν) d) (by unfold cV; rw [if_neg (by omega), if_neg (by omega), if_neg (by omega), if_neg (by omega), if_neg (by omega), if_pos (by omega), decide_eq_true_eq]; omega)]
           · unfold cS; rw [if_neg (by omega), if_neg (by omega), if_neg (by omega), if_neg (by omega), if_neg (by omega), if_pos (by omega)]; first | (rw [if_pos (by omega)]; done) | (rw [if_neg (by omega)]; done))
      · skip
        refine g_iload_n (i := 3) (pc := 190) dX4_commands_190 rfl rfl ?_
        refine g_z_ne (tgt := 207) (pc := 191) dX4_commands_191 (by omega) (by decide) (fun c191 => ?_) (fun c191 => ?_)
        · skip
          refine g_iconst (pc := 207) dX4_commands_207 ?_
          refine g_zret (pc := 208) rfl dX4_commands_208 (by omega) (fun h => h) ?_
          first
          | (refine dt_i ?_ (congrArg (fun z => cW κ (dE (n_setst ν z)) o) ?_)
             · rw [b2_t (b := cV (n_st ν) d) (by unfold cV; rw [if_neg (by omega), if_neg (by omega), if_neg (by omega), if_neg (by omega), if_neg (by omega), if_pos (by omega), decide_eq_true_eq]; omega)]
             · unfold cS; rw [if_neg (by omega), if_neg (by omega), if_neg (by omega), if_neg (by omega), if_neg (by omega), if_pos (by omega)]; first | (rw [if_pos (by omega)]; done) | (rw [if_neg (by omega)]; done))
          | (refine dt_i ?_ (congrArg (fun z => cW κ (dE (n_setst ν z)) o) ?_)
             · rw [b2_f (b := cV (n_st ν) d) (by unfold cV; rw [if_neg (by omega), if_neg (by omega), if_neg (by omega), if_neg (by omega), if_neg (by omega), if_pos (by omega), decide_eq_true_eq]; omega)]
             · unfold cS; rw [if_neg (by omega), if_neg (by omega), if_neg (by omega), if_neg (by omega), if_neg (by omega), if_pos (by omega)]; first | (rw [if_pos (by omega)]; done) | (rw [if_neg (by omega)]; done))
          | (refine dt_i ?_ (Eq.trans (b := cW κ (dE (n_setst ν (n_st ν))) o) rfl (congrArg (fun z => cW κ (dE (n_setst ν z)) o) ?_))
             · rw [b2_t (b := cV (n_st ν) d) (by unfold cV; rw [if_neg (by omega), if_neg (by omega), if_neg (by omega), if_neg (by omega), if_neg (by omega), if_pos (by omega), decide_eq_true_eq]; omega)]
             · unfold cS; rw [if_neg (by omega), if_neg (by omega), if_neg (by omega), if_neg (by omega), if_neg (by omega), if_pos (by omega)]; first | (rw [if_pos (by omega)]; done) | (rw [if_neg (by omega)]; done))
          | (refine dt_i ?_ (Eq.trans (b := cW κ (dE (n_setst ν (n_st ν))) o) rfl (congrArg (fun z => cW κ (dE (n_setst ν z)) o) ?_))
             · rw [b2_f (b := cV (n_st ν) d) (by unfold cV; rw [if_neg (by omega), if_neg (by omega), if_neg (by omega), if_neg (by omega), if_neg (by omega), if_pos (by omega), decide_eq_true_eq]; omega)]
             · unfold cS; rw [if_neg (by omega), if_neg (by omega), if_neg (by omega), if_neg (by omega), if_neg (by omega), if_pos (by omega)]; first | (rw [if_pos (by omega)]; done) | (rw [if_neg (by omega)]; done))
        · skip
          refine g_aload_n (i := 0) (pc := 194) dX4_commands_194 rfl rfl ?_
          refine g_iload (pc := 195) dX4_commands_195 rfl ?_
          refine g_v1 (pc := 197) okV_X4_tryPress rfl l_X4_211 dX4_commands_197 (c_79) hc_4 (by decide) (by decide) (Nat.le_of_ble_eq_true rfl) (t_X4_tryPress hi (by omega)) (by rw [c_len, c_len]) ?_
          simp only [Option.toList, List.cons_append, List.nil_append]
          have bb := b2_rng (decide (dpv (n_st ν) ((d % 100)) ≠ -1))
          have hi0 := hi
          have hi := inv_dp (σ := (n_st ν)) hi ((d % 100))
          have bd := b2_dec (p := dpv (n_st ν) (d % 100) ≠ -1)
          refine g_z_eq (tgt := 207) (pc := 200) dX4_commands_200 (by omega) (by decide) (fun c200 => ?_) (fun c200 => ?_)
          · skip
            refine g_iconst (pc := 207) dX4_commands_207 ?_
            refine g_zret (pc := 208) rfl dX4_commands_208 (by omega) (fun h => h) ?_
            first
            | (refine dt_i ?_ (congrArg (fun z => cW κ (dE (n_setst ν z)) o) ?_)
               · rw [b2_t (b := cV (n_st ν) d) (by unfold cV; rw [if_neg (by omega), if_neg (by omega), if_neg (by omega), if_neg (by omega), if_neg (by omega), if_pos (by omega), decide_eq_true_eq]; omega)]
               · unfold cS; rw [if_neg (by omega), if_neg (by omega), if_neg (by omega), if_neg (by omega), if_neg (by omega), if_pos (by omega)]; first | (rw [if_pos (by omega)]; done) | (rw [if_neg (by omega)]; done))
            | (refine dt_i ?_ (congrArg (fun z => cW κ (dE (n_setst ν z)) o) ?_)
               · rw [b2_f (b := cV (n_st ν) d) (by unfold cV; rw [if_neg (by omega), if_neg (by omega), if_neg (by omega), if_neg (by omega), if_neg (by omega), if_pos (by omega), decide_eq_true_eq]; omega)]
               · unfold cS; rw [if_neg (by omega), if_neg (by omega), if_neg (by omega), if_neg (by omega), if_neg (by omega), if_pos (by omega)]; first | (rw [if_pos (by omega)]; done) | (rw [if_neg (by omega)]; done))
            | (refine dt_i ?_ (Eq.trans (b := cW κ (dE (n_setst ν (n_st ν))) o) rfl (congrArg (fun z => cW κ (dE (n_setst ν z)) o) ?_))
               · rw [b2_t (b := cV (n_st ν) d) (by unfold cV; rw [if_neg (by omega), if_neg (by omega), if_neg (by omega), if_neg (by omega), if_neg (by omega), if_pos (by omega), decide_eq_true_eq]; omega)]
               · unfold cS; rw [if_neg (by omega), if_neg (by omega), if_neg (by omega), if_neg (by omega), if_neg (by omega), if_pos (by omega)]; first | (rw [if_pos (by omega)]; done) | (rw [if_neg (by omega)]; done))
            | (refine dt_i ?_ (Eq.trans (b := cW κ (dE (n_setst ν (n_st ν))) o) rfl (congrArg (fun z => cW κ (dE (n_setst ν z)) o) ?_))
               · rw [b2_f (b := cV (n_st ν) d) (by unfold cV; rw [if_neg (by omega), if_neg (by omega), if_neg (by omega), if_neg (by omega), if_neg (by omega), if_pos (by omega), decide_eq_true_eq]; omega)]
               · unfold cS; rw [if_neg (by omega), if_neg (by omega), if_neg (by omega), if_neg (by omega), if_neg (by omega), if_pos (by omega)]; first | (rw [if_pos (by omega)]; done) | (rw [if_neg (by omega)]; done))
          · skip
            refine g_iconst (pc := 203) dX4_commands_203 ?_
            refine g_goto (tgt := 208) (pc := 204) dX4_commands_204 (by decide) ?_
            refine g_zret (pc := 208) rfl dX4_commands_208 (by omega) (fun h => h) ?_
            first
            | (refine dt_i ?_ (congrArg (fun z => cW κ (dE (n_setst ν z)) o) ?_)
               · rw [b2_t (b := cV (n_st ν) d) (by unfold cV; rw [if_neg (by omega), if_neg (by omega), if_neg (by omega), if_neg (by omega), if_neg (by omega), if_pos (by omega), decide_eq_true_eq]; omega)]
               · unfold cS; rw [if_neg (by omega), if_neg (by omega), if_neg (by omega), if_neg (by omega), if_neg (by omega), if_pos (by omega)]; first | (rw [if_pos (by omega)]; done) | (rw [if_neg (by omega)]; done))
            | (refine dt_i ?_ (congrArg (fun z => cW κ (dE (n_setst ν z)) o) ?_)
               · rw [b2_f (b := cV (n_st ν) d) (by unfold cV; rw [if_neg (by omega), if_neg (by omega), if_neg (by omega), if_neg (by omega), if_neg (by omega), if_pos (by omega), decide_eq_true_eq]; omega)]
               · unfold cS; rw [if_neg (by omega), if_neg (by omega), if_neg (by omega), if_neg (by omega), if_neg (by omega), if_pos (by omega)]; first | (rw [if_pos (by omega)]; done) | (rw [if_neg (by omega)]; done))
            | (refine dt_i ?_ (Eq.trans (b := cW κ (dE (n_setst ν (n_st ν))) o) rfl (congrArg (fun z => cW κ (dE (n_setst ν z)) o) ?_))
               · rw [b2_t (b := cV (n_st ν) d) (by unfold cV; rw [if_neg (by omega), if_neg (by omega), if_neg (by omega), if_neg (by omega), if_neg (by omega), if_pos (by omega), decide_eq_true_eq]; omega)]
               · unfold cS; rw [if_neg (by omega), if_neg (by omega), if_neg (by omega), if_neg (by omega), if_neg (by omega), if_pos (by omega)]; first | (rw [if_pos (by omega)]; done) | (rw [if_neg (by omega)]; done))
            | (refine dt_i ?_ (Eq.trans (b := cW κ (dE (n_setst ν (n_st ν))) o) rfl (congrArg (fun z => cW κ (dE (n_setst ν z)) o) ?_))
               · rw [b2_f (b := cV (n_st ν) d) (by unfold cV; rw [if_neg (by omega), if_neg (by omega), if_neg (by omega), if_neg (by omega), if_neg (by omega), if_pos (by omega), decide_eq_true_eq]; omega)]
               · unfold cS; rw [if_neg (by omega), if_neg (by omega), if_neg (by omega), if_neg (by omega), if_neg (by omega), if_pos (by omega)]; first | (rw [if_pos (by omega)]; done) | (rw [if_neg (by omega)]; done))
    · refine g_tsIn (tgt := 209) (pc := 43) dX4_commands_43 (by omega) (by omega) (by omega) (by rw [ew43]; rfl) (by decide) ?_
      refine g_aload_n (i := 0) (pc := 209) dX4_commands_209 rfl rfl ?_
      refine g_iload_n (i := 2) (pc := 210) dX4_commands_210 rfl rfl ?_
      refine g_iload (pc := 211) dX4_commands_211 rfl ?_
      refine g_iload (pc := 213) dX4_commands_213 rfl ?_
      refine g_v3 (pc := 215) okV_X4_hasValue rfl l_X4_214 dX4_commands_215 (c_79) hc_4 (by decide) (by decide) (Nat.le_of_ble_eq_true rfl) (t_X4_hasValue hi (by omega) (by omega) (by omega)) rfl ?_
      simp only [Option.toList, List.cons_append, List.nil_append]
      have bb := b2_rng (decide (b2 (hasPg (n_st ν) ((d / 1000 % 10)) ((d / 10 % 100))) = 1 ∧ vo (n_st ν) ((d / 1000 % 10)) ((d / 10 % 100)) = (d % 10)))
      refine g_zret (pc := 218) rfl dX4_commands_218 (by omega) (fun h => h) ?_
      refine dt_i ?_ (Eq.trans (b := cW κ (dE (n_setst ν (n_st ν))) o) rfl (congrArg (fun z => cW κ (dE (n_setst ν z)) o) ?_))
      · refine congrArg b2 ?_
        unfold cV; rw [if_neg (by omega), if_neg (by omega), if_neg (by omega), if_neg (by omega), if_neg (by omega), if_neg (by omega), if_pos (by omega)]
      · unfold cS; rw [if_neg (by omega), if_neg (by omega), if_neg (by omega), if_neg (by omega), if_neg (by omega), if_neg (by omega)]
    · refine g_tsIn (tgt := 219) (pc := 43) dX4_commands_43 (by omega) (by omega) (by omega) (by rw [ew43]; rfl) (by decide) ?_
      refine g_aload_n (i := 0) (pc := 219) dX4_commands_219 rfl rfl ?_
      refine g_iload_n (i := 2) (pc := 220) dX4_commands_220 rfl rfl ?_
      refine g_iload_n (i := 3) (pc := 221) dX4_commands_221 rfl rfl ?_
      refine g_v2 (pc := 222) okV_X4_isGroup rfl l_X4_169 dX4_commands_222 (c_79) hc_4 (by decide) (by decide) (Nat.le_of_ble_eq_true rfl) (t_X4_isGroup hi (by omega) (by omega)) rfl ?_
      simp only [Option.toList, List.cons_append, List.nil_append]
      have bb := b2_rng (hasGr (n_st ν) ((d / 1000 % 10)) ((d / 100 % 10)))
      refine g_z_eq (tgt := 258) (pc := 225) dX4_commands_225 (by omega) (by decide) (fun c225 => ?_) (fun c225 => ?_)
      · skip
        refine g_iconst (pc := 258) dX4_commands_258 ?_
        refine g_zret (pc := 259) rfl dX4_commands_259 (by omega) (fun h => h) ?_
        first
        | (refine dt_i ?_ (Eq.trans (b := cW κ (dE (n_setst ν (n_st ν))) o) rfl (congrArg (fun z => cW κ (dE (n_setst ν z)) o) ?_))
           · rw [b2_t (b := cV (n_st ν) d) (by unfold cV; rw [if_neg (by omega), if_neg (by omega), if_neg (by omega), if_neg (by omega), if_neg (by omega), if_neg (by omega), if_neg (by omega), if_pos (by omega), decide_eq_true_eq]; omega)]
           · unfold cS; rw [if_neg (by omega), if_neg (by omega), if_neg (by omega), if_neg (by omega), if_neg (by omega), if_neg (by omega)])
        | (refine dt_i ?_ (Eq.trans (b := cW κ (dE (n_setst ν (n_st ν))) o) rfl (congrArg (fun z => cW κ (dE (n_setst ν z)) o) ?_))
           · rw [b2_f (b := cV (n_st ν) d) (by unfold cV; rw [if_neg (by omega), if_neg (by omega), if_neg (by omega), if_neg (by omega), if_neg (by omega), if_neg (by omega), if_neg (by omega), if_pos (by omega), decide_eq_true_eq]; omega)]
           · unfold cS; rw [if_neg (by omega), if_neg (by omega), if_neg (by omega), if_neg (by omega), if_neg (by omega), if_neg (by omega)])
      · skip
        refine g_iload (pc := 228) dX4_commands_228 rfl ?_
        refine g_iconst (pc := 230) dX4_commands_230 ?_
        refine g_c_ge (tgt := 258) (pc := 231) dX4_commands_231 (by omega) (by decide) (fun c231 => ?_) (fun c231 => ?_)
        · skip
          refine g_iconst (pc := 258) dX4_commands_258 ?_
          refine g_zret (pc := 259) rfl dX4_commands_259 (by omega) (fun h => h) ?_
          first
          | (refine dt_i ?_ (Eq.trans (b := cW κ (dE (n_setst ν (n_st ν))) o) rfl (congrArg (fun z => cW κ (dE (n_setst ν z)) o) ?_))
             · rw [b2_t (b := cV (n_st ν) d) (by unfold cV; rw [if_neg (by omega), if_neg (by omega), if_neg (by omega), if_neg (by omega), if_neg (by omega), if_neg (by omega), if_neg (by omega), if_pos (by omega), decide_eq_true_eq]; omega)]
             · unfold cS; rw [if_neg (by omega), if_neg (by omega), if_neg (by omega), if_neg (by omega), if_neg (by omega), if_neg (by omega)])
          | (refine dt_i ?_ (Eq.trans (b := cW κ (dE (n_setst ν (n_st ν))) o) rfl (congrArg (fun z => cW κ (dE (n_setst ν z)) o) ?_))
             · rw [b2_f (b := cV (n_st ν) d) (by unfold cV; rw [if_neg (by omega), if_neg (by omega), if_neg (by omega), if_neg (by omega), if_neg (by omega), if_neg (by omega), if_neg (by omega), if_pos (by omega), decide_eq_true_eq]; omega)]
             · unfold cS; rw [if_neg (by omega), if_neg (by omega), if_neg (by omega), if_neg (by omega), if_neg (by omega), if_neg (by omega)])
        · skip
          obtain ⟨⟨h_p1, h_p2, h_e⟩, h_g1, h_g2⟩ := ex_gr (b2_1.mp (show b2 (hasGr (n_st ν) (d / 1000 % 10) (d / 100 % 10)) = 1 by omega))
          refine g_aload_n (i := 0) (pc := 234) dX4_commands_234 rfl rfl ?_
          refine g_iload_n (i := 2) (pc := 235) dX4_commands_235 rfl rfl ?_
          refine g_iload_n (i := 3) (pc := 236) dX4_commands_236 rfl rfl ?_
          refine g_v2 (pc := 237) okV_X4_isBig rfl l_X4_60 dX4_commands_237 (c_79) hc_4 (by decide) (by decide) (Nat.le_of_ble_eq_true rfl) (t_X4_isBig hi (by omega) (by omega)) rfl ?_
          simp only [Option.toList, List.cons_append, List.nil_append]
          have bb := b2_rng (big (n_st ν) ((d / 1000 % 10)) ((d / 100 % 10)))
          refine g_iload (pc := 240) dX4_commands_240 rfl ?_
          refine g_iconst (pc := 242) dX4_commands_242 ?_
          refine g_c_ne (tgt := 250) (pc := 243) dX4_commands_243 (by omega) (by decide) (fun c243 => ?_) (fun c243 => ?_)
          · skip
            refine g_iconst (pc := 250) dX4_commands_250 ?_
            refine g_c_ne (tgt := 258) (pc := 251) dX4_commands_251 (by omega) (by decide) (fun c251 => ?_) (fun c251 => ?_)
            · skip
              refine g_iconst (pc := 258) dX4_commands_258 ?_
              refine g_zret (pc := 259) rfl dX4_commands_259 (by omega) (fun h => h) ?_
              first
              | (refine dt_i ?_ (Eq.trans (b := cW κ (dE (n_setst ν (n_st ν))) o) rfl (congrArg (fun z => cW κ (dE (n_setst ν z)) o) ?_))
                 · rw [b2_t (b := cV (n_st ν) d) (by unfold cV; rw [if_neg (by omega), if_neg (by omega), if_neg (by omega), if_neg (by omega), if_neg (by omega), if_neg (by omega), if_neg (by omega), if_pos (by omega), decide_eq_true_eq]; omega)]
                 · unfold cS; rw [if_neg (by omega), if_neg (by omega), if_neg (by omega), if_neg (by omega), if_neg (by omega), if_neg (by omega)])
              | (refine dt_i ?_ (Eq.trans (b := cW κ (dE (n_setst ν (n_st ν))) o) rfl (congrArg (fun z => cW κ (dE (n_setst ν z)) o) ?_))
                 · rw [b2_f (b := cV (n_st ν) d) (by unfold cV; rw [if_neg (by omega), if_neg (by omega), if_neg (by omega), if_neg (by omega), if_neg (by omega), if_neg (by omega), if_neg (by omega), if_pos (by omega), decide_eq_true_eq]; omega)]
                 · unfold cS; rw [if_neg (by omega), if_neg (by omega), if_neg (by omega), if_neg (by omega), if_neg (by omega), if_neg (by omega)])
            · skip
              refine g_iconst (pc := 254) dX4_commands_254 ?_
              refine g_goto (tgt := 259) (pc := 255) dX4_commands_255 (by decide) ?_
              refine g_zret (pc := 259) rfl dX4_commands_259 (by omega) (fun h => h) ?_
              first
              | (refine dt_i ?_ (Eq.trans (b := cW κ (dE (n_setst ν (n_st ν))) o) rfl (congrArg (fun z => cW κ (dE (n_setst ν z)) o) ?_))
                 · rw [b2_t (b := cV (n_st ν) d) (by unfold cV; rw [if_neg (by omega), if_neg (by omega), if_neg (by omega), if_neg (by omega), if_neg (by omega), if_neg (by omega), if_neg (by omega), if_pos (by omega), decide_eq_true_eq]; omega)]
                 · unfold cS; rw [if_neg (by omega), if_neg (by omega), if_neg (by omega), if_neg (by omega), if_neg (by omega), if_neg (by omega)])
              | (refine dt_i ?_ (Eq.trans (b := cW κ (dE (n_setst ν (n_st ν))) o) rfl (congrArg (fun z => cW κ (dE (n_setst ν z)) o) ?_))
                 · rw [b2_f (b := cV (n_st ν) d) (by unfold cV; rw [if_neg (by omega), if_neg (by omega), if_neg (by omega), if_neg (by omega), if_neg (by omega), if_neg (by omega), if_neg (by omega), if_pos (by omega), decide_eq_true_eq]; omega)]
                 · unfold cS; rw [if_neg (by omega), if_neg (by omega), if_neg (by omega), if_neg (by omega), if_neg (by omega), if_neg (by omega)])
          · skip
            refine g_iconst (pc := 246) dX4_commands_246 ?_
            refine g_goto (tgt := 251) (pc := 247) dX4_commands_247 (by decide) ?_
            refine g_c_ne (tgt := 258) (pc := 251) dX4_commands_251 (by omega) (by decide) (fun c251 => ?_) (fun c251 => ?_)
            · skip
              refine g_iconst (pc := 258) dX4_commands_258 ?_
              refine g_zret (pc := 259) rfl dX4_commands_259 (by omega) (fun h => h) ?_
              first
              | (refine dt_i ?_ (Eq.trans (b := cW κ (dE (n_setst ν (n_st ν))) o) rfl (congrArg (fun z => cW κ (dE (n_setst ν z)) o) ?_))
                 · rw [b2_t (b := cV (n_st ν) d) (by unfold cV; rw [if_neg (by omega), if_neg (by omega), if_neg (by omega), if_neg (by omega), if_neg (by omega), if_neg (by omega), if_neg (by omega), if_pos (by omega), decide_eq_true_eq]; omega)]
                 · unfold cS; rw [if_neg (by omega), if_neg (by omega), if_neg (by omega), if_neg (by omega), if_neg (by omega), if_neg (by omega)])
              | (refine dt_i ?_ (Eq.trans (b := cW κ (dE (n_setst ν (n_st ν))) o) rfl (congrArg (fun z => cW κ (dE (n_setst ν z)) o) ?_))
                 · rw [b2_f (b := cV (n_st ν) d) (by unfold cV; rw [if_neg (by omega), if_neg (by omega), if_neg (by omega), if_neg (by omega), if_neg (by omega), if_neg (by omega), if_neg (by omega), if_pos (by omega), decide_eq_true_eq]; omega)]
                 · unfold cS; rw [if_neg (by omega), if_neg (by omega), if_neg (by omega), if_neg (by omega), if_neg (by omega), if_neg (by omega)])
            · skip
              refine g_iconst (pc := 254) dX4_commands_254 ?_
              refine g_goto (tgt := 259) (pc := 255) dX4_commands_255 (by decide) ?_
              refine g_zret (pc := 259) rfl dX4_commands_259 (by omega) (fun h => h) ?_
              first
              | (refine dt_i ?_ (Eq.trans (b := cW κ (dE (n_setst ν (n_st ν))) o) rfl (congrArg (fun z => cW κ (dE (n_setst ν z)) o) ?_))
                 · rw [b2_t (b := cV (n_st ν) d) (by unfold cV; rw [if_neg (by omega), if_neg (by omega), if_neg (by omega), if_neg (by omega), if_neg (by omega), if_neg (by omega), if_neg (by omega), if_pos (by omega), decide_eq_true_eq]; omega)]
                 · unfold cS; rw [if_neg (by omega), if_neg (by omega), if_neg (by omega), if_neg (by omega), if_neg (by omega), if_neg (by omega)])
              | (refine dt_i ?_ (Eq.trans (b := cW κ (dE (n_setst ν (n_st ν))) o) rfl (congrArg (fun z => cW κ (dE (n_setst ν z)) o) ?_))
                 · rw [b2_f (b := cV (n_st ν) d) (by unfold cV; rw [if_neg (by omega), if_neg (by omega), if_neg (by omega), if_neg (by omega), if_neg (by omega), if_neg (by omega), if_neg (by omega), if_pos (by omega), decide_eq_true_eq]; omega)]
                 · unfold cS; rw [if_neg (by omega), if_neg (by omega), if_neg (by omega), if_neg (by omega), if_neg (by omega), if_neg (by omega)])
    · refine g_tsIn (tgt := 260) (pc := 43) dX4_commands_43 (by omega) (by omega) (by omega) (by rw [ew43]; rfl) (by decide) ?_
      refine g_iload_n (i := 2) (pc := 260) dX4_commands_260 rfl rfl ?_
      refine g_z_ne (tgt := 281) (pc := 261) dX4_commands_261 (by omega) (by decide) (fun c261 => ?_) (fun c261 => ?_)
      · skip
        refine g_iconst (pc := 281) dX4_commands_281 ?_
        refine g_zret (pc := 282) rfl dX4_commands_282 (by omega) (fun h => h) ?_
        first
        | (refine dt_i ?_ (Eq.trans (b := cW κ (dE (n_setst ν (n_st ν))) o) rfl (congrArg (fun z => cW κ (dE (n_setst ν z)) o) ?_))
           · rw [b2_t (b := cV (n_st ν) d) (by unfold cV; rw [if_neg (by omega), if_neg (by omega), if_neg (by omega), if_neg (by omega), if_neg (by omega), if_neg (by omega), if_neg (by omega), if_neg (by omega), decide_eq_true_eq]; omega)]
           · unfold cS; rw [if_neg (by omega), if_neg (by omega), if_neg (by omega), if_neg (by omega), if_neg (by omega), if_neg (by omega)])
        | (refine dt_i ?_ (Eq.trans (b := cW κ (dE (n_setst ν (n_st ν))) o) rfl (congrArg (fun z => cW κ (dE (n_setst ν z)) o) ?_))
           · rw [b2_f (b := cV (n_st ν) d) (by unfold cV; rw [if_neg (by omega), if_neg (by omega), if_neg (by omega), if_neg (by omega), if_neg (by omega), if_neg (by omega), if_neg (by omega), if_neg (by omega), decide_eq_true_eq]; omega)]
           · unfold cS; rw [if_neg (by omega), if_neg (by omega), if_neg (by omega), if_neg (by omega), if_neg (by omega), if_neg (by omega)])
      · skip
        refine g_iload_n (i := 3) (pc := 264) dX4_commands_264 rfl rfl ?_
        refine g_z_ne (tgt := 281) (pc := 265) dX4_commands_265 (by omega) (by decide) (fun c265 => ?_) (fun c265 => ?_)
        · skip
          refine g_iconst (pc := 281) dX4_commands_281 ?_
          refine g_zret (pc := 282) rfl dX4_commands_282 (by omega) (fun h => h) ?_
          first
          | (refine dt_i ?_ (Eq.trans (b := cW κ (dE (n_setst ν (n_st ν))) o) rfl (congrArg (fun z => cW κ (dE (n_setst ν z)) o) ?_))
             · rw [b2_t (b := cV (n_st ν) d) (by unfold cV; rw [if_neg (by omega), if_neg (by omega), if_neg (by omega), if_neg (by omega), if_neg (by omega), if_neg (by omega), if_neg (by omega), if_neg (by omega), decide_eq_true_eq]; omega)]
             · unfold cS; rw [if_neg (by omega), if_neg (by omega), if_neg (by omega), if_neg (by omega), if_neg (by omega), if_neg (by omega)])
          | (refine dt_i ?_ (Eq.trans (b := cW κ (dE (n_setst ν (n_st ν))) o) rfl (congrArg (fun z => cW κ (dE (n_setst ν z)) o) ?_))
             · rw [b2_f (b := cV (n_st ν) d) (by unfold cV; rw [if_neg (by omega), if_neg (by omega), if_neg (by omega), if_neg (by omega), if_neg (by omega), if_neg (by omega), if_neg (by omega), if_neg (by omega), decide_eq_true_eq]; omega)]
             · unfold cS; rw [if_neg (by omega), if_neg (by omega), if_neg (by omega), if_neg (by omega), if_neg (by omega), if_neg (by omega)])
        · skip
          refine g_aload_n (i := 0) (pc := 268) dX4_commands_268 rfl rfl ?_
          refine g_v0 (pc := 269) okV_X4_freeFrames rfl l_X4_103 dX4_commands_269 (c_79) hc_4 (by decide) (by decide) (Nat.le_of_ble_eq_true rfl) (t_X4_freeFrames hi) rfl ?_
          simp only [Option.toList, List.cons_append, List.nil_append]
          have bb := nff_rng (n_st ν)
          refine g_iload (pc := 272) dX4_commands_272 rfl ?_
          refine g_c_lt (tgt := 281) (pc := 274) dX4_commands_274 (by omega) (by decide) (fun c274 => ?_) (fun c274 => ?_)
          · skip
            refine g_iconst (pc := 281) dX4_commands_281 ?_
            refine g_zret (pc := 282) rfl dX4_commands_282 (by omega) (fun h => h) ?_
            first
            | (refine dt_i ?_ (Eq.trans (b := cW κ (dE (n_setst ν (n_st ν))) o) rfl (congrArg (fun z => cW κ (dE (n_setst ν z)) o) ?_))
               · rw [b2_t (b := cV (n_st ν) d) (by unfold cV; rw [if_neg (by omega), if_neg (by omega), if_neg (by omega), if_neg (by omega), if_neg (by omega), if_neg (by omega), if_neg (by omega), if_neg (by omega), decide_eq_true_eq]; omega)]
               · unfold cS; rw [if_neg (by omega), if_neg (by omega), if_neg (by omega), if_neg (by omega), if_neg (by omega), if_neg (by omega)])
            | (refine dt_i ?_ (Eq.trans (b := cW κ (dE (n_setst ν (n_st ν))) o) rfl (congrArg (fun z => cW κ (dE (n_setst ν z)) o) ?_))
               · rw [b2_f (b := cV (n_st ν) d) (by unfold cV; rw [if_neg (by omega), if_neg (by omega), if_neg (by omega), if_neg (by omega), if_neg (by omega), if_neg (by omega), if_neg (by omega), if_neg (by omega), decide_eq_true_eq]; omega)]
               · unfold cS; rw [if_neg (by omega), if_neg (by omega), if_neg (by omega), if_neg (by omega), if_neg (by omega), if_neg (by omega)])
          · skip
            refine g_iconst (pc := 277) dX4_commands_277 ?_
            refine g_goto (tgt := 282) (pc := 278) dX4_commands_278 (by decide) ?_
            refine g_zret (pc := 282) rfl dX4_commands_282 (by omega) (fun h => h) ?_
            first
            | (refine dt_i ?_ (Eq.trans (b := cW κ (dE (n_setst ν (n_st ν))) o) rfl (congrArg (fun z => cW κ (dE (n_setst ν z)) o) ?_))
               · rw [b2_t (b := cV (n_st ν) d) (by unfold cV; rw [if_neg (by omega), if_neg (by omega), if_neg (by omega), if_neg (by omega), if_neg (by omega), if_neg (by omega), if_neg (by omega), if_neg (by omega), decide_eq_true_eq]; omega)]
               · unfold cS; rw [if_neg (by omega), if_neg (by omega), if_neg (by omega), if_neg (by omega), if_neg (by omega), if_neg (by omega)])
            | (refine dt_i ?_ (Eq.trans (b := cW κ (dE (n_setst ν (n_st ν))) o) rfl (congrArg (fun z => cW κ (dE (n_setst ν z)) o) ?_))
               · rw [b2_f (b := cV (n_st ν) d) (by unfold cV; rw [if_neg (by omega), if_neg (by omega), if_neg (by omega), if_neg (by omega), if_neg (by omega), if_neg (by omega), if_neg (by omega), if_neg (by omega), decide_eq_true_eq]; omega)]
               · unfold cS; rw [if_neg (by omega), if_neg (by omega), if_neg (by omega), if_neg (by omega), if_neg (by omega), if_neg (by omega)])
  · refine g_tsOut (tgt := 283) (pc := 43) dX4_commands_43 (by omega) (by omega) (by decide) ?_
    refine g_iconst (pc := 283) dX4_commands_283 ?_
    refine g_zret (pc := 284) rfl dX4_commands_284 (by omega) (fun h => h) ?_
    first
    | (refine dt_i ?_ (Eq.trans (b := cW κ (dE (n_setst ν (n_st ν))) o) rfl (congrArg (fun z => cW κ (dE (n_setst ν z)) o) ?_))
       · rw [b2_t (b := cV (n_st ν) d) (by unfold cV; rw [if_neg (by omega), if_neg (by omega), if_neg (by omega), if_neg (by omega), if_neg (by omega), if_neg (by omega), if_neg (by omega), if_neg (by omega), decide_eq_true_eq]; omega)]
       · unfold cS; rw [if_neg (by omega), if_neg (by omega), if_neg (by omega), if_neg (by omega), if_neg (by omega), if_neg (by omega)])
    | (refine dt_i ?_ (Eq.trans (b := cW κ (dE (n_setst ν (n_st ν))) o) rfl (congrArg (fun z => cW κ (dE (n_setst ν z)) o) ?_))
       · rw [b2_f (b := cV (n_st ν) d) (by unfold cV; rw [if_neg (by omega), if_neg (by omega), if_neg (by omega), if_neg (by omega), if_neg (by omega), if_neg (by omega), if_neg (by omega), if_neg (by omega), decide_eq_true_eq]; omega)]
       · unfold cS; rw [if_neg (by omega), if_neg (by omega), if_neg (by omega), if_neg (by omega), if_neg (by omega), if_neg (by omega)])
set_option maxRecDepth 20000 in
set_option maxHeartbeats 4000000 in
theorem t_X4_step {κ : KT} {ν : NT} {o : Nat → Int} {al : Bool} (hi : Inv (n_st ν)) {r : Int} (h_r : 0 ≤ r ∧ r < 2147483648) (hh : hasP (n_st ν) (r / 16 % 4) = true) : GM M_X4_step al [vR 79, vI (r / 16 % 4), vI r] (cW κ (dE ν) o) 0 0 (dt none (cW κ (dE (n_setst ν (sT (n_st ν) r))) o)) := by
  show G _ none _ _ 0 [some (vR 79), some (vI (r / 16 % 4)), some (vI r)] [] _ _ _ _
  refine g_iload_n (i := 2) (pc := 0) dX4_step_0 rfl rfl ?_
  refine g_bipush (pc := 1) dX4_step_1 (by decide) ?_
  refine g_irem (pc := 3) dX4_step_3 (by omega) (by omega) ?_
  refine G.eqS (congrArg (fun z => vI z) (Int.tmod_eq_emod_of_nonneg (by omega))) ?_
  by_cases sw4 : 0 ≤ (r % 8) ∧ (r % 8) ≤ 3
  · rcases (by omega : (r % 8) = 0 ∨ (r % 8) = 1 ∨ (r % 8) = 2 ∨ (r % 8) = 3) with ew4 | ew4 | ew4 | ew4
    · refine g_tsIn (tgt := 36) (pc := 4) dX4_step_4 (by omega) (by omega) (by omega) (by rw [ew4]; rfl) (by decide) ?_
      refine g_aload_n (i := 0) (pc := 36) dX4_step_36 rfl rfl ?_
      refine g_iload_n (i := 1) (pc := 37) dX4_step_37 rfl rfl ?_
      refine g_v1 (pc := 38) okV_X4_tryFork rfl l_X4_145 dX4_step_38 (c_79) hc_4 (by decide) (by decide) (Nat.le_of_ble_eq_true rfl) (t_X4_tryFork hi (by omega)) (by rw [c_len, c_len]) ?_
      simp only [Option.toList, List.cons_append, List.nil_append]
      have bb := b2_rng (decide (dfv (n_st ν) ((r / 16 % 4)) ≠ -1))
      have hi0 := hi
      have hi := inv_df (σ := (n_st ν)) hi ((r / 16 % 4))
      refine g_pop (pc := 41) dX4_step_41 (fun z h => nomatch h) ?_
      refine g_goto (tgt := 107) (pc := 42) dX4_step_42 (by decide) ?_
      refine g_vret (pc := 107) rfl dX4_step_107 (fun h => h) ?_
      refine dt_v (congrArg (fun z => cW κ (dE (n_setst ν z)) o) ?_)
      unfold sT
      rw [if_pos hh, if_pos (by omega)]
    · refine g_tsIn (tgt := 45) (pc := 4) dX4_step_4 (by omega) (by omega) (by omega) (by rw [ew4]; rfl) (by decide) ?_
      refine g_aload_n (i := 0) (pc := 45) dX4_step_45 rfl rfl ?_
      refine g_iload_n (i := 1) (pc := 46) dX4_step_46 rfl rfl ?_
      refine g_v1 (pc := 47) okV_X4_tryExit rfl l_X4_148 dX4_step_47 (c_79) hc_4 (by decide) (by decide) (Nat.le_of_ble_eq_true rfl) (t_X4_tryExit hi (by omega)) (by rw [c_len, c_len]) ?_
      simp only [Option.toList, List.cons_append, List.nil_append]
      have bb := b2_rng (decide (dev (n_st ν) ((r / 16 % 4)) ≠ -1))
      have hi0 := hi
      have hi := inv_de (σ := (n_st ν)) hi ((r / 16 % 4))
      refine g_pop (pc := 50) dX4_step_50 (fun z h => nomatch h) ?_
      refine g_goto (tgt := 107) (pc := 51) dX4_step_51 (by decide) ?_
      refine g_vret (pc := 107) rfl dX4_step_107 (fun h => h) ?_
      refine dt_v (congrArg (fun z => cW κ (dE (n_setst ν z)) o) ?_)
      unfold sT
      rw [if_pos hh, if_neg (by omega), if_pos (by omega)]
    · refine g_tsIn (tgt := 54) (pc := 4) dX4_step_4 (by omega) (by omega) (by omega) (by rw [ew4]; rfl) (by decide) ?_
      refine g_aload_n (i := 0) (pc := 54) dX4_step_54 rfl rfl ?_
      refine g_iload_n (i := 1) (pc := 55) dX4_step_55 rfl rfl ?_
      refine g_iload_n (i := 2) (pc := 56) dX4_step_56 rfl rfl ?_
      refine g_bipush (pc := 57) dX4_step_57 (by decide) ?_
      refine g_idiv (pc := 59) dX4_step_59 (by omega) (by omega) ?_
      refine G.eqS (congrArg (fun z => vI z) (Int.tdiv_eq_ediv_of_nonneg (by omega))) ?_
      refine g_iconst (pc := 60) dX4_step_60 ?_
      refine g_irem (pc := 61) dX4_step_61 (by omega) (by omega) ?_
      refine G.eqS (congrArg (fun z => vI z) (Int.tmod_eq_emod_of_nonneg (by omega))) ?_
      refine g_v2 (pc := 62) okV_X4_tryMarry rfl l_X4_151 dX4_step_62 (c_79) hc_4 (by decide) (by decide) (Nat.le_of_ble_eq_true rfl) (t_X4_tryMarry hi (by omega) (by omega)) (by rw [c_len, c_len]) ?_
      simp only [Option.toList, List.cons_append, List.nil_append]
      have bb := b2_rng (decide (dmv (n_st ν) ((r / 16 % 4)) ((r / 64 % 4)) ≠ -1))
      have hi0 := hi
      have hi := inv_dm (σ := (n_st ν)) hi ((r / 16 % 4)) ((r / 64 % 4))
      refine g_pop (pc := 65) dX4_step_65 (fun z h => nomatch h) ?_
      refine g_goto (tgt := 107) (pc := 66) dX4_step_66 (by decide) ?_
      refine g_vret (pc := 107) rfl dX4_step_107 (fun h => h) ?_
      refine dt_v (congrArg (fun z => cW κ (dE (n_setst ν z)) o) ?_)
      unfold sT
      rw [if_pos hh, if_neg (by omega), if_neg (by omega), if_pos (by omega)]
    · refine g_tsIn (tgt := 69) (pc := 4) dX4_step_4 (by omega) (by omega) (by omega) (by rw [ew4]; rfl) (by decide) ?_
      refine g_aload_n (i := 0) (pc := 69) dX4_step_69 rfl rfl ?_
      refine g_iconst (pc := 70) dX4_step_70 ?_
      refine g_iload_n (i := 2) (pc := 71) dX4_step_71 rfl rfl ?_
      refine g_bipush (pc := 72) dX4_step_72 (by decide) ?_
      refine g_idiv (pc := 74) dX4_step_74 (by omega) (by omega) ?_
      refine G.eqS (congrArg (fun z => vI z) (Int.tdiv_eq_ediv_of_nonneg (by omega))) ?_
      refine g_bipush (pc := 75) dX4_step_75 (by decide) ?_
      refine g_irem (pc := 77) dX4_step_77 (by omega) (by omega) ?_
      refine G.eqS (congrArg (fun z => vI z) (Int.tmod_eq_emod_of_nonneg (by omega))) ?_
      refine g_iadd (pc := 78) dX4_step_78 ?_
      refine g_v1 (pc := 79) okV_X4_tryPress rfl l_X4_211 dX4_step_79 (c_79) hc_4 (by decide) (by decide) (Nat.le_of_ble_eq_true rfl) (t_X4_tryPress hi (by omega)) (by rw [c_len, c_len]) ?_
      simp only [Option.toList, List.cons_append, List.nil_append]
      have bb := b2_rng (decide (dpv (n_st ν) ((1 + (r / 64 % 8))) ≠ -1))
      have hi0 := hi
      have hi := inv_dp (σ := (n_st ν)) hi ((1 + (r / 64 % 8)))
      refine g_pop (pc := 82) dX4_step_82 (fun z h => nomatch h) ?_
      refine g_goto (tgt := 107) (pc := 83) dX4_step_83 (by decide) ?_
      refine g_vret (pc := 107) rfl dX4_step_107 (fun h => h) ?_
      refine dt_v (congrArg (fun z => cW κ (dE (n_setst ν z)) o) ?_)
      unfold sT
      rw [if_pos hh, if_neg (by omega), if_neg (by omega), if_neg (by omega), if_pos (by omega)]
  · refine g_tsOut (tgt := 86) (pc := 4) dX4_step_4 (by omega) (by omega) (by decide) ?_
    refine g_aload_n (i := 0) (pc := 86) dX4_step_86 rfl rfl ?_
    refine g_iload_n (i := 1) (pc := 87) dX4_step_87 rfl rfl ?_
    refine g_iload_n (i := 2) (pc := 88) dX4_step_88 rfl rfl ?_
    refine g_bipush (pc := 89) dX4_step_89 (by decide) ?_
    refine g_idiv (pc := 91) dX4_step_91 (by omega) (by omega) ?_
    refine G.eqS (congrArg (fun z => vI z) (Int.tdiv_eq_ediv_of_nonneg (by omega))) ?_
    refine g_bipush (pc := 92) dX4_step_92 (by decide) ?_
    refine g_irem (pc := 94) dX4_step_94 (by omega) (by omega) ?_
    refine G.eqS (congrArg (fun z => vI z) (Int.tmod_eq_emod_of_nonneg (by omega))) ?_
    refine g_iload_n (i := 2) (pc := 95) dX4_step_95 rfl rfl ?_
    refine g_sipush (pc := 96) dX4_step_96 (by decide) ?_
    refine g_idiv (pc := 99) dX4_step_99 (by omega) (by omega) ?_
    refine G.eqS (congrArg (fun z => vI z) (Int.tdiv_eq_ediv_of_nonneg (by omega))) ?_
    refine g_bipush (pc := 100) dX4_step_100 (by decide) ?_
    refine g_irem (pc := 102) dX4_step_102 (by omega) (by omega) ?_
    refine G.eqS (congrArg (fun z => vI z) (Int.tmod_eq_emod_of_nonneg (by omega))) ?_
    refine g_v3 (pc := 103) okV_X4_tryWrite rfl l_X4_142 dX4_step_103 (c_79) hc_4 (by decide) (by decide) (Nat.le_of_ble_eq_true rfl) (t_X4_tryWrite hi (by omega) (by omega) (by omega)) (by rw [c_len, c_len]) ?_
    simp only [Option.toList, List.cons_append, List.nil_append]
    have bb := b2_rng (decide (dwv (n_st ν) ((r / 16 % 4)) ((r / 64 % 16)) ((r / 1024 % 100)) ≠ -1))
    have hi0 := hi
    have hi := inv_dw (σ := (n_st ν)) hi ((r / 16 % 4)) ((r / 64 % 16)) ((r / 1024 % 100))
    refine g_pop (pc := 106) dX4_step_106 (fun z h => nomatch h) ?_
    refine g_vret (pc := 107) rfl dX4_step_107 (fun h => h) ?_
    refine dt_v (congrArg (fun z => cW κ (dE (n_setst ν z)) o) ?_)
    unfold sT
    rw [if_pos hh, if_neg (by omega), if_neg (by omega), if_neg (by omega), if_neg (by omega)]
end MC9
