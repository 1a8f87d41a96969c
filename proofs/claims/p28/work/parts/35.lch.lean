/-! THE LAW'S MARRIAGES, its copies (printed by wip/p28/lch.py, but for the first rows) -/
section LC9
theorem lfr_rf {σ : SG} (h : lfr σ ≠ -1) : rf σ (lfr σ) = true := by
  rcases ff_cases (fun r => rf σ r) 8 with ⟨h1, -⟩ | ⟨k, h1, -, h3, -⟩
  · exact absurd h1 h
  · have e : lfr σ = k := h1
    rw [e]; exact h3
theorem mv_qf (σ : SG) (p g r : Int) : ∀ j, qf (s_mv σ p g r j) = qf σ
  | 0 => rfl
  | j + 1 => mv_qf σ p g r j
theorem mv_co (σ : SG) (p g r : Int) : ∀ j, s_co (s_mv σ p g r j) = s_co σ
  | 0 => rfl
  | j + 1 => mv_co σ p g r j
theorem setL_eq {w : List MC} {x : Nat} {a b c a' b' c' : Nat → Int} (h1 : a = a') (h2 : b = b') (h3 : c = c') : setL w x (a, b, c) = setL w x (a', b', c') := by rw [h1, h2, h3]
def ZI (t : DT) : Prop := (∀ k, 7 ≤ k → t.1 k = 0) ∧ (∀ k, 32 ≤ k → t.2.1 k = 0) ∧ (∀ k, 32 ≤ k → t.2.2 k = 0)
theorem zi_lawm {σ : SG} (hi : Inv σ) : ZI (lawm σ) := by
  refine ⟨fun k hk => ?_, fun k hk => ?_, hi.2.2.2.2.2.1⟩
  · show qf σ k = 0
    unfold qf
    rw [if_neg (by omega), if_neg (by omega), if_neg (by omega), if_neg (by omega), if_neg (by omega), if_neg (by omega), if_neg (by omega)]
  · show um (s_fr σ) k = 0
    rw [um_0]
    refine ct_zero.mpr fun j hj q => ?_
    have h1 := hi.1 j
    have h2 := of_decide_eq_true q
    omega
def mix (f g : Nat → Int) (k : Nat) : Nat → Int := fun j => if j < k then f j else g j
theorem mix_0 (f g : Nat → Int) : mix f g 0 = g := by
  funext j
  unfold mix
  rw [if_neg (Nat.not_lt_zero j)]
theorem mix_s (f g : Nat → Int) (k : Nat) : va_up (mix f g k) ((k : Int)).toNat (f ((k : Int)).toNat) = mix f g (k + 1) := by
  funext j
  unfold va_up mix
  rw [Int.toNat_natCast]
  by_cases q : j = k
  · rw [if_pos q, if_pos (by omega), q]
  · rw [if_neg q]
    by_cases z : j < k
    · rw [if_pos z, if_pos (by omega)]
    · rw [if_neg z, if_neg (by omega)]
theorem mix_n {f g : Nat → Int} {n : Nat} (hf : ∀ k, n ≤ k → f k = 0) (hg : ∀ k, n ≤ k → g k = 0) : mix f g n = f := by
  funext j
  unfold mix
  by_cases q : j < n
  · rw [if_pos q]
  · rw [if_neg q, hf j (by omega), hg j (by omega)]
set_option maxRecDepth 20000 in
set_option maxHeartbeats 400000 in
theorem t_L_weds {w : List MC} {a : Nat} {σ : SG} {al : Bool} (hw : okL w a) (hi : Inv σ) {gg p g : Int} (hG : gg = 4 * p + g) (h_p : 0 ≤ p ∧ p < 4) (h_g : 0 ≤ g ∧ g < 4) (h_P : hasP σ p = true) : GM M_L_weds al [vI gg, vR a, vR (a + 1), vR (a + 2)] (setL w a (lawm σ)) 0 0 (dt (some (vI (if wn σ p g = 0 then (if ip σ p g = true then 0 else 4) else -2))) (setL w a (lawm (if wn σ p g = 0 then s_mar σ p g else σ)))) := by
  show G _ none _ _ 0 [some (vI gg), some (vR a), some (vR (a + 1)), some (vR (a + 2)), none, none, none] [] _ _ _ _
  refine g_iload_n (i := 0) (pc := 0) dL_weds_0 rfl rfl ?_
  refine g_aload_n (i := 1) (pc := 1) dL_weds_1 rfl rfl ?_
  refine g_aload_n (i := 2) (pc := 2) dL_weds_2 rfl rfl ?_
  refine g_sIRR (pc := 3) okS_L_why rfl l_L_69 dL_weds_3 (by decide) (by decide) (Nat.le_of_ble_eq_true rfl) (t_L_why (σ := σ) (p := p) (g := g) (l_at0 hw) (l_at1 hw) hi (by omega) h_p h_g) rfl ?_
  simp only [Option.toList, List.cons_append, List.nil_append]
  have bb := wn_rng σ p g
  have w9 := wn_rng σ p g
  refine g_z_le (tgt := 12) (pc := 6) dL_weds_6 (by omega) (by decide) (fun c6 => ?_) (fun c6 => ?_)
  · skip
    have hw0 : wn σ p g = 0 := by omega
    obtain ⟨hn1, hn2, hn3, hn4⟩ := wn_0 hw0
    have h_e := ex_of h_P
    have hus : ∀ i : Nat, i < 4 → fo σ p (4 * g + i) ≠ -1 ∧ uses (s_fr σ) (fo σ p (4 * g + i)) = 1 := by
      intro i hi9
      have z1 := pf_all hn2 (j := i) hi9
      refine ⟨z1, ?_⟩
      rcases (by omega : uses (s_fr σ) (fo σ p (4 * g + (i : Int))) = 1 ∨ ¬ uses (s_fr σ) (fo σ p (4 * g + (i : Int))) = 1) with z | z
      · exact z
      · have z2 := (sh_one (v := 4 * g + (i : Int)) h_p (by omega) z1).mpr z
        have z3 := ps_rng σ p g
        have z4 : ps σ p g = 0 := by omega
        exact absurd z2 (ct_zero.mp z4 i hi9)
    refine g_aload_n (i := 1) (pc := 12) dL_weds_12 rfl rfl ?_
    refine g_iconst (pc := 13) dL_weds_13 ?_
    refine g_dup2 (pc := 14) dL_weds_14 (fun z h => nomatch h) (fun z h => nomatch h) ?_
    refine g_iald (pc := 15) dL_weds_15 ((l_at0 hw)) (by omega) ?_
    refine G.eqS (v' := vI (bsum (s_bg σ) 16)) rfl ?_
    refine g_iconst (pc := 16) dL_weds_16 ?_
    refine g_iload_n (i := 0) (pc := 17) dL_weds_17 rfl rfl ?_
    refine G.eqS (v' := vI ((gg.toNat : Nat) : Int)) (congrArg (fun z => vI z) (by omega)) ?_
    refine g_ishl (pc := 18) dL_weds_18 ?_
    skip
    refine g_ior (pc := 19) dL_weds_19 ?_
    refine g_iast (pc := 20) dL_weds_20 (l_at0 hw) (by omega) ?_
    refine G.eqw (l_set0 hw) ?_
    refine G.eqw (w' := setL w a (lawm (s_setbg σ gg.toNat 1))) (congrArg (fun z => setL w a (z, um (s_fr σ), s_va σ)) (qf_big hi (G := gg.toNat) (by omega))) ?_
    refine g_iload_n (i := 0) (pc := 21) dL_weds_21 rfl rfl ?_
    refine g_aload_n (i := 2) (pc := 22) dL_weds_22 rfl rfl ?_
    refine g_sIR (pc := 23) okS_L_place rfl l_L_66 dL_weds_23 (by decide) (by decide) (Nat.le_of_ble_eq_true rfl) (t_L_place (σ := σ) (p := p) (g := g) (l_at1 hw) hi (by omega) h_p h_g) rfl ?_
    simp only [Option.toList, List.cons_append, List.nil_append]
    have bb := b2_rng (ip σ p g)
    refine g_z_eq (tgt := 31) (pc := 26) dL_weds_26 (by omega) (by decide) (fun c26 => ?_) (fun c26 => ?_)
    · skip
      refine g_aload_n (i := 2) (pc := 31) dL_weds_31 rfl rfl ?_
      refine g_sR (pc := 32) okS_L_run rfl l_L_42 dL_weds_32 (by decide) (by decide) (Nat.le_of_ble_eq_true rfl) (t_L_run (σ := σ) (l_at1 hw) hi) rfl ?_
      simp only [Option.toList, List.cons_append, List.nil_append]
      have bb := lfr_rng σ
      have h_ip : ¬ ip σ p g = true := b2_0.mp (by omega)
      have h_r : 0 ≤ lfr σ := by have := hn4.resolve_left h_ip; have := lfr_rng σ; omega
      have h_rf : rf σ (lfr σ) = true := lfr_rf (by omega)
      refine g_istore (pc := 35) dL_weds_35 (by decide) rfl ?_
      simp only [List.set_cons_succ, List.set_cons_zero]
      refine g_iconst (pc := 37) dL_weds_37 ?_
      refine g_istore (pc := 38) dL_weds_38 (by decide) rfl ?_
      simp only [List.set_cons_succ, List.set_cons_zero]
      refine G.eqw (w' := setL w a (qf (s_setbg σ gg.toNat 1), um (s_fr (s_mv σ p g (lfr σ) 0)), s_va (s_mv σ p g (lfr σ) 0))) rfl ?_
      refine lp_up (P := fun j => G M_L_weds none al al 40 [some (vI gg), some (vR a), some (vR (a + 1)), some (vR (a + 2)), some (vI (lfr σ)), some (vI (j : Int)), none] [] (setL w a (qf (s_setbg σ gg.toNat 1), um (s_fr (s_mv σ p g (lfr σ) j)), s_va (s_mv σ p g (lfr σ) j))) 0 0 (dt (some (vI (if wn σ p g = 0 then (if ip σ p g = true then 0 else 4) else -2))) (setL w a (lawm (if wn σ p g = 0 then s_mar σ p g else σ))))) 4 ?_ ?_ 0 (Nat.zero_le _)
      · show G _ _ _ _ _ _ _ _ _ _ _
        refine g_iload (pc := 40) dL_weds_40 rfl ?_
        refine g_iconst (pc := 42) dL_weds_42 ?_
        refine g_c_ge (tgt := 99) (pc := 43) dL_weds_43 (by omega) (by decide) (fun c43 => ?_) (fun c43 => absurd c43 (by omega))
        refine g_aload_n (i := 1) (pc := 99) dL_weds_99 rfl rfl ?_
        refine g_iconst (pc := 100) dL_weds_100 ?_
        refine g_dup2 (pc := 101) dL_weds_101 (fun z h => nomatch h) (fun z h => nomatch h) ?_
        refine g_iald (pc := 102) dL_weds_102 ((l_at0 hw)) (by omega) ?_
        refine G.eqS (v' := vI (s_co (s_setbg σ gg.toNat 1))) rfl ?_
        refine g_iconst (pc := 103) dL_weds_103 ?_
        refine g_iadd (pc := 104) dL_weds_104 ?_
        refine g_iast (pc := 105) dL_weds_105 (l_at0 hw) (by omega) ?_
        refine G.eqw (l_set0 hw) ?_
        refine G.eqw (w' := setL w a (lawm (s_addco (s_setbg (s_mv σ p g (lfr σ) 4) (4 * p + g).toNat 1) 4))) (congrArg (fun z => setL w a (z, um (s_fr (s_mv σ p g (lfr σ) 4)), s_va (s_mv σ p g (lfr σ) 4))) ?_) ?_
        · refine (qf_co (s_setbg σ gg.toNat 1) 4).trans ?_
          rw [← qf_co, ← qf_co, ← qf_bg, ← qf_bg, mv_qf, mv_bg, hG]
          show va_up (va_up (qf σ) 1 _) 2 (s_co σ + 4) = va_up (va_up (qf σ) 1 _) 2 (s_co (s_mv σ p g (lfr σ) 4) + 4)
          rw [mv_co]
        refine g_iconst (pc := 106) dL_weds_106 ?_
        refine g_iret (pc := 107) rfl dL_weds_107 (fun h => h) ?_
        refine dt_i (by rw [if_pos hw0, if_neg h_ip]) ?_
        rw [if_pos hw0]
        unfold s_mar
        rw [if_neg h_ip]
      · intro j hj ih
        show G _ _ _ _ _ _ _ _ _ _ _
        have him := inv_mv hi (p := p) (g := g) (r := lfr σ) h_e h_g (by have := lfr_rng σ; omega) (fun i h => (hus i h).1) j (by omega)
        have hmu := mv_us h_p h_g h_r hus h_rf (j := j) (by omega)
        have bf := fo_rng hi p (4 * g + (j : Int))
        have bn := (hus j hj).1
        have br := lfr_rng σ
        refine g_iload (pc := 40) dL_weds_40 rfl ?_
        refine g_iconst (pc := 42) dL_weds_42 ?_
        refine g_c_ge (tgt := 99) (pc := 43) dL_weds_43 (by omega) (by decide) (fun c43 => absurd c43 (by omega)) (fun c43 => ?_)
        refine g_iconst (pc := 46) dL_weds_46 ?_
        refine g_iload_n (i := 0) (pc := 47) dL_weds_47 rfl rfl ?_
        refine g_imul (pc := 48) dL_weds_48 ?_
        refine g_iload (pc := 49) dL_weds_49 rfl ?_
        refine g_iadd (pc := 51) dL_weds_51 ?_
        refine g_aload_n (i := 2) (pc := 52) dL_weds_52 rfl rfl ?_
        refine g_sIR (pc := 53) okS_L_frame rfl l_L_46 dL_weds_53 (by decide) (by decide) (Nat.le_of_ble_eq_true rfl) (t_L_frame (σ := s_mv σ p g (lfr σ) j) (l_at1 hw) him (by omega)) rfl ?_
        simp only [Option.toList, List.cons_append, List.nil_append]
        refine G.eqS (congrArg (fun z => vI z) ((fo_k (σ := s_mv σ p g (lfr σ) j) (p := p) (v := 4 * g + (j : Int)) (by omega) h_p (by omega)).trans (mv_fo h_p h_g hj))) ?_
        refine g_istore (pc := 56) dL_weds_56 (by decide) rfl ?_
        simp only [List.set_cons_succ, List.set_cons_zero]
        refine g_aload_n (i := 3) (pc := 58) dL_weds_58 rfl rfl ?_
        refine g_iconst (pc := 59) dL_weds_59 ?_
        refine g_iload (pc := 60) dL_weds_60 rfl ?_
        refine g_imul (pc := 62) dL_weds_62 ?_
        refine g_iload (pc := 63) dL_weds_63 rfl ?_
        refine g_iadd (pc := 65) dL_weds_65 ?_
        refine g_aload_n (i := 3) (pc := 66) dL_weds_66 rfl rfl ?_
        refine g_iload (pc := 67) dL_weds_67 rfl ?_
        refine g_iald (pc := 69) dL_weds_69 ((l_at2 hw)) (by omega) ?_
        refine g_iast (pc := 70) dL_weds_70 (l_at2 hw) (by omega) ?_
        refine G.eqw (l_set2 hw) ?_
        refine g_aload_n (i := 2) (pc := 71) dL_weds_71 rfl rfl ?_
        refine g_iload (pc := 72) dL_weds_72 rfl ?_
        refine g_lconst (z := 0) (pc := 74) dL_weds_74 rfl ?_
        refine g_last (pc := 75) dL_weds_75 (l_at1 hw) (by omega) ?_
        refine G.eqw (l_set1 hw) ?_
        refine g_aload_n (i := 2) (pc := 76) dL_weds_76 rfl rfl ?_
        refine g_iconst (pc := 77) dL_weds_77 ?_
        refine g_iload (pc := 78) dL_weds_78 rfl ?_
        refine g_imul (pc := 80) dL_weds_80 ?_
        refine g_iload (pc := 81) dL_weds_81 rfl ?_
        refine g_iadd (pc := 83) dL_weds_83 ?_
        refine g_lconst (z := 1) (pc := 84) dL_weds_84 rfl ?_
        refine g_iconst (pc := 85) dL_weds_85 ?_
        refine g_iload_n (i := 0) (pc := 86) dL_weds_86 rfl rfl ?_
        refine g_imul (pc := 87) dL_weds_87 ?_
        refine g_iload (pc := 88) dL_weds_88 rfl ?_
        refine g_iadd (pc := 90) dL_weds_90 ?_
        refine g_lshl (pc := 91) dL_weds_91 ?_
        refine G.eqS (v' := vL (b_shlL 1 (((4 * gg + (j : Int)).toNat : Nat) : Int))) (congrArg (fun z => vL (b_shlL 1 z)) (by omega)) ?_
        refine g_last (pc := 92) dL_weds_92 (l_at1 hw) (by omega) ?_
        refine G.eqw (l_set1 hw) ?_
        refine G.eqw (w' := setL w a (qf (s_setbg σ gg.toNat 1), um (s_fr (s_mv σ p g (lfr σ) (j + 1))), s_va (s_mv σ p g (lfr σ) (j + 1)))) (setL_eq rfl ?_ ?_) ?_
        · have u9 := hmu j (Nat.le_refl _) hj
          have k9 : (4 * gg + (j : Int)).toNat = (16 * p + (4 * g + (j : Int))).toNat := by omega
          have f9 : s_fr (s_mv σ p g (lfr σ) j) (4 * gg + (j : Int)).toNat = (((fo σ p (4 * g + (j : Int))).toNat : Nat) : Int) := by rw [k9, mv_fr σ p g _ (fun i' h' => by omega), ← fo_in h_p (by omega)]; omega
          have e9 := um_mv (fr := s_fr (s_mv σ p g (lfr σ) j)) (k := (4 * gg + (j : Int)).toNat) (f := (fo σ p (4 * g + (j : Int))).toNat) (t := (4 * lfr σ + (j : Int)).toNat) (by omega) f9 (by rw [Int.toNat_of_nonneg (by omega)]; exact u9.2) (by rw [Int.toNat_of_nonneg (by omega)]; exact u9.1)
          refine e9.trans ?_
          show um (va_up (s_fr (s_mv σ p g (lfr σ) j)) (4 * gg + (j : Int)).toNat _) = um (va_up (s_fr (s_mv σ p g (lfr σ) j)) (16 * p + (4 * g + (j : Int))).toNat _)
          rw [k9, Int.toNat_of_nonneg (by omega)]
        · show va_up (s_va (s_mv σ p g (lfr σ) j)) _ _ = va_up (s_va (s_mv σ p g (lfr σ) j)) _ (vo (s_mv σ p g (lfr σ) j) p (4 * g + (j : Int)))
          unfold vo
          rw [mv_fo h_p h_g hj, if_neg (hus j hj).1]
        refine g_iinc (pc := 93) dL_weds_93 rfl (by decide) rfl ?_
        simp only [List.set_cons_succ, List.set_cons_zero]
        refine g_goto (tgt := 40) (pc := 96) dL_weds_96 (by decide) ?_
        refine G.drop 6 ?_
        simp only [List.set_cons_succ, List.set_cons_zero]
        exact ih
    · skip
      refine g_iconst (pc := 29) dL_weds_29 ?_
      refine g_iret (pc := 30) rfl dL_weds_30 (fun h => h) ?_
      refine dt_i (by rw [if_pos hw0, if_pos (b2_1.mp (by omega))]) ?_
      rw [if_pos hw0]
      unfold s_mar
      rw [if_pos (b2_1.mp (by omega)), addco_0, hG]
  · skip
    refine g_bipush (pc := 9) dL_weds_9 (by decide) ?_
    refine g_iret (pc := 11) rfl dL_weds_11 (fun h => h) ?_
    exact dt_i (by rw [if_neg (by omega)]) (by rw [if_neg (by omega)])
set_option maxRecDepth 20000 in
set_option maxHeartbeats 400000 in
theorem t_L_copy {κ : KT} {δ o : DT} {al : Bool} (hz : ZI δ) (ho : ZI o) : GM M_L_copy al [vR 79, vR 80, vR 81, vR 82, vR 83, vR 84] (cW κ δ o) 0 0 (dt none (cW κ δ δ)) := by
  show G _ none _ _ 0 [some (vR 79), some (vR 80), some (vR 81), some (vR 82), some (vR 83), some (vR 84), none] [] _ _ _ _
  refine g_iconst (pc := 0) dL_copy_0 ?_
  refine g_istore (pc := 1) dL_copy_1 (by decide) rfl ?_
  simp only [List.set_cons_succ, List.set_cons_zero]
  refine G.eqw (w' := cW κ δ (mix δ.1 o.1 0, o.2)) (congrArg (fun z => cW κ δ (z, o.2)) (mix_0 _ _).symm) ?_
  refine lp_up (P := fun k => G M_L_copy none al al 3 [some (vR 79), some (vR 80), some (vR 81), some (vR 82), some (vR 83), some (vR 84), some (vI (k : Int))] [] (cW κ δ (mix δ.1 o.1 k, o.2)) 0 0 (dt none (cW κ δ δ))) 7 ?_ ?_ 0 (Nat.zero_le _)
  · show G _ _ _ _ _ _ _ _ _ _ _
    refine G.eqw (w' := cW κ δ (δ.1, mix δ.2.1 o.2.1 0, mix δ.2.2 o.2.2 0)) (by rw [mix_n hz.1 ho.1, mix_0, mix_0]) ?_
    refine g_iload (pc := 3) dL_copy_3 rfl ?_
    refine g_bipush (pc := 5) dL_copy_5 (by decide) ?_
    refine g_c_ge (tgt := 24) (pc := 7) dL_copy_7 (by omega) (by decide) (fun c7 => ?_) (fun c7 => absurd c7 (by omega))
    refine g_iconst (pc := 24) dL_copy_24 ?_
    refine g_istore (pc := 25) dL_copy_25 (by decide) rfl ?_
    simp only [List.set_cons_succ, List.set_cons_zero]
    refine lp_up (P := fun k => G M_L_copy none al al 27 [some (vR 79), some (vR 80), some (vR 81), some (vR 82), some (vR 83), some (vR 84), some (vI (k : Int))] [] (cW κ δ (δ.1, mix δ.2.1 o.2.1 k, mix δ.2.2 o.2.2 k)) 0 0 (dt none (cW κ δ δ))) 32 ?_ ?_ 0 (Nat.zero_le _)
    · show G _ _ _ _ _ _ _ _ _ _ _
      refine g_iload (pc := 27) dL_copy_27 rfl ?_
      refine g_bipush (pc := 29) dL_copy_29 (by decide) ?_
      refine g_c_ge (tgt := 58) (pc := 31) dL_copy_31 (by omega) (by decide) (fun c31 => ?_) (fun c31 => absurd c31 (by omega))
      refine g_vret (pc := 58) rfl dL_copy_58 (fun h => h) ?_
      exact dt_v (by rw [mix_n hz.2.1 ho.2.1, mix_n hz.2.2 ho.2.2])
    · intro k hk ih
      show G _ _ _ _ _ _ _ _ _ _ _
      refine g_iload (pc := 27) dL_copy_27 rfl ?_
      refine g_bipush (pc := 29) dL_copy_29 (by decide) ?_
      refine g_c_ge (tgt := 58) (pc := 31) dL_copy_31 (by omega) (by decide) (fun c31 => absurd c31 (by omega)) (fun c31 => ?_)
      refine g_aload (pc := 34) dL_copy_34 rfl ?_
      refine g_iload (pc := 36) dL_copy_36 rfl ?_
      refine g_aload_n (i := 1) (pc := 38) dL_copy_38 rfl rfl ?_
      refine g_iload (pc := 39) dL_copy_39 rfl ?_
      refine g_lald (pc := 41) dL_copy_41 (c_80) (by omega) ?_
      refine g_last (pc := 42) dL_copy_42 c_83 (by omega) ?_
      refine G.eqw w_u2 ?_
      refine g_aload (pc := 43) dL_copy_43 rfl ?_
      refine g_iload (pc := 45) dL_copy_45 rfl ?_
      refine g_aload_n (i := 2) (pc := 47) dL_copy_47 rfl rfl ?_
      refine g_iload (pc := 48) dL_copy_48 rfl ?_
      refine g_iald (pc := 50) dL_copy_50 (c_81) (by omega) ?_
      refine g_iast (pc := 51) dL_copy_51 c_84 (by omega) ?_
      refine G.eqw w_v2 ?_
      refine g_iinc (pc := 52) dL_copy_52 rfl (by decide) rfl ?_
      simp only [List.set_cons_succ, List.set_cons_zero]
      refine g_goto (tgt := 27) (pc := 55) dL_copy_55 (by decide) ?_
      exact G.eqw (congrArg (cW κ δ) (show ((δ.1, va_up (mix δ.2.1 o.2.1 k) ((k : Int)).toNat (δ.2.1 ((k : Int)).toNat), va_up (mix δ.2.2 o.2.2 k) ((k : Int)).toNat (δ.2.2 ((k : Int)).toNat)) : DT) = (δ.1, mix δ.2.1 o.2.1 (k + 1), mix δ.2.2 o.2.2 (k + 1)) from by rw [mix_s, mix_s])) ih
  · intro k hk ih
    show G _ _ _ _ _ _ _ _ _ _ _
    refine g_iload (pc := 3) dL_copy_3 rfl ?_
    refine g_bipush (pc := 5) dL_copy_5 (by decide) ?_
    refine g_c_ge (tgt := 24) (pc := 7) dL_copy_7 (by omega) (by decide) (fun c7 => absurd c7 (by omega)) (fun c7 => ?_)
    refine g_aload_n (i := 3) (pc := 10) dL_copy_10 rfl rfl ?_
    refine g_iload (pc := 11) dL_copy_11 rfl ?_
    refine g_aload_n (i := 0) (pc := 13) dL_copy_13 rfl rfl ?_
    refine g_iload (pc := 14) dL_copy_14 rfl ?_
    refine g_iald (pc := 16) dL_copy_16 (c_79) (by omega) ?_
    refine g_iast (pc := 17) dL_copy_17 c_82 (by omega) ?_
    refine G.eqw w_q2 ?_
    refine g_iinc (pc := 18) dL_copy_18 rfl (by decide) rfl ?_
    simp only [List.set_cons_succ, List.set_cons_zero]
    refine g_goto (tgt := 3) (pc := 21) dL_copy_21 (by decide) ?_
    exact G.eqw (congrArg (cW κ δ) (show ((va_up (mix δ.1 o.1 k) ((k : Int)).toNat (δ.1 ((k : Int)).toNat), o.2) : DT) = (mix δ.1 o.1 (k + 1), o.2) from by rw [mix_s])) ih
end LC9
