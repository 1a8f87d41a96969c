/-! THE LAW'S BODY (printed by wip/p28/law3.py, but for the first rows) -/
section LB9
theorem nex_no {σ : SG} (hi : Inv σ) (h : ∀ i : Nat, i < 4 → ¬ hasP σ i = true) : nex σ = 0 := by
  refine ct_zero.mpr fun i hi9 z => h i hi9 ?_
  exact decide_eq_true ⟨by omega, by omega, by rw [Int.toNat_natCast]; exact of_decide_eq_true z⟩
theorem um_new : um (s_fr s_new) = fun _ => 0 := by
  funext f
  rw [um_0]
  refine ct_zero.mpr fun k hk z => ?_
  have h1 := of_decide_eq_true z
  have h2 : s_fr s_new k = -1 := if_pos hk
  omega
theorem qf_new : va_up (fun _ => 0) 0 1 = qf s_new := by
  funext j
  by_cases q : j = 0
  · subst q; rw [up_s]; decide
  · rw [up_n q]
    unfold qf
    rw [if_neg q]
    have e1 : bsum (s_bg s_new) 16 = 0 := by decide
    have e2 : s_co s_new = 0 ∧ s_fa s_new = 0 ∧ s_te s_new = 0 ∧ s_lo s_new = 0 ∧ s_ea s_new = 0 := ⟨rfl, rfl, rfl, rfl, rfl⟩
    rw [e1, e2.1, e2.2.1, e2.2.2.1, e2.2.2.2.1, e2.2.2.2.2]
    (repeat' split) <;> rfl
theorem ti_00 : TI k_00 s_new := ⟨kinv_00, rfl, bi_new, by decide⟩
theorem g_astore {M : MT} {scr : Option (Nat × (Nat → Int))} {al alE : Bool} {pc : Nat} {L : List (Option MV)} {S : List MV} {w : List MC} {bc bs : Nat} {Q : (Option MV) ⊕ String → List MC → Prop} {i a : Nat} (hd : decode (mC M) pc = .ok (.astore i, 2)) (hn : i < mL M) (hk : g_nl L i = true) (kk : G M scr al alE (pc + 2) (L.set i (some (vR a))) S w bc bs Q) : G M scr al alE pc L (vR a :: S) w bc bs Q :=
  G.st (fun p l e R s m args below meth c H locs cells slots Z ls ad hx hb hown hts hl k => lv_astore hx hb hd hl hn rfl (fun ls' hl' => k ls' (g_keep hl' (g_set1 (vR a) hk)))) kk
theorem cW_eq9 {κ : KT} {o : DT} {a b c a' b' c' : Nat → Int} (h1 : a = a') (h2 : b = b') (h3 : c = c') : cW κ (a, b, c) o = cW κ (a', b', c') o := by rw [h1, h2, h3]
set_option maxRecDepth 20000 in
set_option maxHeartbeats 600000 in
theorem lk_t {n : Nat} {f : Nat → Int} {t : Nat} (ht : t < 20) {κ : KT} {σ : SG} {o : DT} (hK : KInv κ) (hs : k_ms κ 0 = σ) (hbi : BI σ) (hnx : 0 < nex σ) (hz : ZI o) (ih : ∀ (κ : KT) (σ : SG) (o : DT), TI κ σ → ZI o → G M_L_law (some (n, f)) false false 49 [some (vR SCR), some (vR 0), some (vR 79), some (vR 80), some (vR 81), some (vR 82), some (vR 83), some (vR 84), some (vI ((t + 1 : Nat) : Int)), none, none, none, none, none, none, none, none] [] (cW κ (lawm σ) o) (5100 * (20 - (t + 1))) (6 * (5100 * (20 - (t + 1)))) LQ) : G M_L_law (some (n, f)) false false 804 [some (vR SCR), some (vR 0), some (vR 79), some (vR 80), some (vR 81), some (vR 82), some (vR 83), some (vR 84), some (vI (t : Int)), none, none, none, none, none, none, none, none] [] (cW κ (lawm σ) o) (5002 + 5100 * (19 - t)) (6 * (5002 + 5100 * (19 - t))) LQ := by
  have hi : Inv σ := hs ▸ hK.2.2.1 0
  refine g_aload_n (i := 1) (pc := 804) dL_law_804 rfl rfl ?_
  refine g_aload_n (i := 2) (pc := 805) dL_law_805 rfl rfl ?_
  refine g_aload_n (i := 3) (pc := 806) dL_law_806 rfl rfl ?_
  refine g_aload (pc := 807) dL_law_807 rfl ?_
  refine g_callS (pc := 809) (as := [vR 0, vR 79, vR 80, vR 81]) (bc' := 5000) (bs' := 30000) okS_L_same rfl l_L_147 dL_law_809 rfl (by decide) (by decide) (Nat.le_of_ble_eq_true rfl) ⟨by omega, by omega⟩ (t_L_same hK hs) (fun h => nomatch h) (fun r w' h => ?_) (fun E w' h => nomatch h.1)
  obtain ⟨hr9, rfl⟩ := h
  obtain rfl := Sum.inl.inj hr9
  simp only [Option.toList, List.cons_append, List.nil_append]
  refine g_z_ne (tgt := 817) (pc := 812) dL_law_812 (by omega) (by decide) (fun c812 => ?_) (fun c812 => absurd c812 (by omega))
  refine g_iconst (pc := 817) dL_law_817 ?_
  refine g_istore (pc := 818) dL_law_818 (by decide) rfl ?_
  simp only [List.set_cons_succ, List.set_cons_zero]
  refine lp_up (P := fun j => (∀ i : Nat, i < j → ¬ hasP σ i = true) → G M_L_law (some (n, f)) false false 820 [some (vR SCR), some (vR 0), some (vR 79), some (vR 80), some (vR 81), some (vR 82), some (vR 83), some (vR 84), some (vI (t : Int)), none, none, none, none, none, some (vI ((j : Int))), none, none] [] (cW κ (lawm σ) o) (5002 + 5100 * (19 - t) - 5000) (6 * (5002 + 5100 * (19 - t)) - 30000) LQ) 4 ?_ ?_ 0 (Nat.zero_le _) (fun i h => absurd h (Nat.not_lt_zero i))
  · intro hH
    exfalso
    have := nex_no hi hH
    omega
  · intro j hj ihj hH
    show G _ _ _ _ _ _ _ _ _ _ _
    refine g_aload_n (i := 2) (pc := 820) dL_law_820 rfl rfl ?_
    refine g_iconst (pc := 821) dL_law_821 ?_
    refine g_iald (pc := 822) dL_law_822 (c_79) (by omega) ?_
    refine G.eqS (v' := vI (bsum (s_ex σ) 4)) rfl ?_
    refine g_iload (pc := 823) dL_law_823 rfl ?_
    refine g_ishr (pc := 825) dL_law_825 ?_
    refine g_iconst (pc := 826) dL_law_826 ?_
    refine g_iand (pc := 827) dL_law_827 ?_
    refine G.eqS (congrArg (fun z => vI z) (bit_ex hi (p := (j : Int)) (by omega))) ?_
    have xb9 := b2_rng (hasP σ (j : Int))
    refine g_z_ne (tgt := 837) (pc := 828) dL_law_828 (by omega) (by decide) (fun c828 => ?_) (fun c828 => ?_)
    · skip
      refine g_aload_n (i := 1) (pc := 837) dL_law_837 rfl rfl ?_
      refine g_iload (pc := 838) dL_law_838 rfl ?_
      refine g_aload_n (i := 2) (pc := 840) dL_law_840 rfl rfl ?_
      refine g_aload_n (i := 3) (pc := 841) dL_law_841 rfl rfl ?_
      refine g_aload (pc := 842) dL_law_842 rfl ?_
      refine g_aload (pc := 844) dL_law_844 rfl ?_
      refine g_aload (pc := 846) dL_law_846 rfl ?_
      refine g_aload (pc := 848) dL_law_848 rfl ?_
      have h_P := b2_1.mp (show b2 (hasP σ (j : Int)) = 1 by omega)
      refine g_callS (pc := 850) (as := [vR 0, vI (j : Int), vR 79, vR 80, vR 81, vR 82, vR 83, vR 84]) (bc' := 2) (bs' := 12) okS_L_could rfl l_L_151 dL_law_850 rfl (Nat.le_of_ble_eq_true rfl) (by decide) (Nat.le_of_ble_eq_true rfl) ⟨by omega, by omega⟩ (t_L_could hK hs hbi hz h_P) (fun h => nomatch h) (fun r w' h => ?_) (fun E w' h => nomatch h.1)
      obtain ⟨hr9, κ8, o8, hK8, hs8, hz8, rfl⟩ := h
      obtain rfl := Sum.inl.inj hr9
      simp only [Option.toList, List.cons_append, List.nil_append]
      refine g_z_ne (tgt := 858) (pc := 853) dL_law_853 (by omega) (by decide) (fun c853 => ?_) (fun c853 => absurd c853 (by omega))
      refine g_iinc (pc := 858) dL_law_858 rfl (by decide) rfl ?_
      simp only [List.set_cons_succ, List.set_cons_zero]
      refine g_goto (tgt := 49) (pc := 861) dL_law_861 (by decide) ?_
      refine G.drop 14 ?_
      simp only [List.set_cons_succ, List.set_cons_zero]
      exact G.bud (ih κ8 σ o8 ⟨hK8, hs8, hbi, hnx⟩ hz8) (by omega) (by omega)
    · skip
      refine g_iinc (pc := 831) dL_law_831 rfl (by decide) rfl ?_
      simp only [List.set_cons_succ, List.set_cons_zero]
      refine g_goto (tgt := 820) (pc := 834) dL_law_834 (by decide) ?_
      refine ihj (fun i h => ?_)
      rcases Nat.lt_or_ge i j with q | q
      · exact hH i q
      · rw [show i = j by omega]; exact b2_0.mp (by omega)
set_option maxRecDepth 20000 in
set_option maxHeartbeats 600000 in
theorem lk_loop {n : Nat} {f : Nat → Int} (hn : n ≤ 260) : ∀ t : Nat, t ≤ 20 → ∀ (κ : KT) (σ : SG) (o : DT), TI κ σ → ZI o → G M_L_law (some (n, f)) false false 49 [some (vR SCR), some (vR 0), some (vR 79), some (vR 80), some (vR 81), some (vR 82), some (vR 83), some (vR 84), some (vI (t : Int)), none, none, none, none, none, none, none, none] [] (cW κ (lawm σ) o) (5100 * (20 - t)) (6 * (5100 * (20 - t))) LQ := by
  refine lp_up (P := fun t => ∀ (κ : KT) (σ : SG) (o : DT), TI κ σ → ZI o → G M_L_law (some (n, f)) false false 49 [some (vR SCR), some (vR 0), some (vR 79), some (vR 80), some (vR 81), some (vR 82), some (vR 83), some (vR 84), some (vI (t : Int)), none, none, none, none, none, none, none, none] [] (cW κ (lawm σ) o) (5100 * (20 - t)) (6 * (5100 * (20 - t))) LQ) 20 ?_ ?_
  · intro κ σ o hti hz
    show G _ _ _ _ _ _ _ _ _ _ _
    refine g_iload (pc := 49) dL_law_49 rfl ?_
    refine g_bipush (pc := 51) dL_law_51 (by decide) ?_
    refine g_c_ge (tgt := 864) (pc := 53) dL_law_53 (by omega) (by decide) (fun c53 => ?_) (fun c53 => absurd c53 (by omega))
    refine g_iconst (pc := 864) dL_law_864 ?_
    refine g_zret (pc := 865) rfl dL_law_865 (by omega) (fun h => h) ?_
    exact rfl
  · intro t ht ih κ σ o hti hz
    have hT : TL n f t := fun κ σ o hti hz => lk_t ht hti.1 hti.2.1 hti.2.2.1 hti.2.2.2 hz ih
    obtain ⟨hK, hs, hbi, hnx⟩ := id hti
    have hi : Inv σ := hs ▸ hK.2.2.1 0
    show G _ _ _ _ _ _ _ _ _ _ _
    refine g_iload (pc := 49) dL_law_49 rfl ?_
    refine g_bipush (pc := 51) dL_law_51 (by decide) ?_
    refine g_c_ge (tgt := 864) (pc := 53) dL_law_53 (by omega) (by decide) (fun c53 => absurd c53 (by omega)) (fun c53 => ?_)
    refine g_aload_n (i := 0) (pc := 56) dL_law_56 rfl rfl ?_
    refine g_iload (pc := 57) dL_law_57 rfl ?_
    refine g_callSS (pc := 59) (as := [vR SCR, vI (t : Int)]) (bc' := 0) (bs' := 0) okS_L_cell rfl l_L_119 dL_law_59 rfl (Nat.le_of_ble_eq_true rfl) (by decide) (Nat.le_of_ble_eq_true rfl) ⟨Nat.zero_le _, Nat.zero_le _⟩ (t_L_cell hn (by omega)) (fun h => nomatch h) (fun r w' h => ?_) (fun E w' h => nomatch h.1)
    obtain ⟨hr9, rfl⟩ := h
    obtain rfl := Sum.inl.inj hr9
    simp only [Option.toList, List.cons_append, List.nil_append]
    generalize cellv n f (t : Int) = x
    refine g_istore (pc := 62) dL_law_62 (by decide) rfl ?_
    simp only [List.set_cons_succ, List.set_cons_zero]
    refine g_iload (pc := 64) dL_law_64 rfl ?_
    refine g_bipush (pc := 66) dL_law_66 (by decide) ?_
    refine g_sII (pc := 68) okS_L_low rfl l_L_123 dL_law_68 (by decide) (by decide) (Nat.le_of_ble_eq_true rfl) (t_L_low (by omega)) rfl ?_
    simp only [Option.toList, List.cons_append, List.nil_append]
    have bb := lowv_rng (x) (n := 8) (by omega)
    refine g_istore (pc := 71) dL_law_71 (by decide) rfl ?_
    simp only [List.set_cons_succ, List.set_cons_zero]
    refine g_iload (pc := 73) dL_law_73 rfl ?_
    refine g_iconst (pc := 75) dL_law_75 ?_
    refine g_ishr (pc := 76) dL_law_76 ?_
    refine g_iconst (pc := 77) dL_law_77 ?_
    refine g_sII (pc := 78) okS_L_low rfl l_L_123 dL_law_78 (by decide) (by decide) (Nat.le_of_ble_eq_true rfl) (t_L_low (by omega)) rfl ?_
    simp only [Option.toList, List.cons_append, List.nil_append]
    have bb := lowv_rng ((b_shr x 3)) (n := 4) (by omega)
    refine g_istore (pc := 81) dL_law_81 (by decide) rfl ?_
    simp only [List.set_cons_succ, List.set_cons_zero]
    refine g_iconst (pc := 83) dL_law_83 ?_
    refine g_iload (pc := 84) dL_law_84 rfl ?_
    refine g_imul (pc := 86) dL_law_86 ?_
    refine g_iload (pc := 87) dL_law_87 rfl ?_
    refine g_iconst (pc := 89) dL_law_89 ?_
    refine g_ishr (pc := 90) dL_law_90 ?_
    refine g_iconst (pc := 91) dL_law_91 ?_
    refine g_sII (pc := 92) okS_L_low rfl l_L_123 dL_law_92 (by decide) (by decide) (Nat.le_of_ble_eq_true rfl) (t_L_low (by omega)) rfl ?_
    simp only [Option.toList, List.cons_append, List.nil_append]
    have bb := lowv_rng ((b_shr x 5)) (n := 4) (by omega)
    refine g_iadd (pc := 95) dL_law_95 ?_
    refine g_istore (pc := 96) dL_law_96 (by decide) rfl ?_
    simp only [List.set_cons_succ, List.set_cons_zero]
    refine g_aload_n (i := 2) (pc := 98) dL_law_98 rfl rfl ?_
    refine g_iconst (pc := 99) dL_law_99 ?_
    refine g_iald (pc := 100) dL_law_100 (c_79) (by omega) ?_
    refine G.eqS (v' := vI (bsum (s_ex σ) 4)) rfl ?_
    refine g_iload (pc := 101) dL_law_101 rfl ?_
    refine g_ishr (pc := 103) dL_law_103 ?_
    refine g_iconst (pc := 104) dL_law_104 ?_
    refine g_iand (pc := 105) dL_law_105 ?_
    refine G.eqS (congrArg (fun z => vI z) (bit_ex hi (p := lowv (b_shr x 3) 4) (lowv_rng _ (by decide)))) ?_
    have xb9 := b2_rng (hasP σ (lowv (b_shr x 3) 4))
    refine g_iconst (pc := 106) dL_law_106 ?_
    refine G.join2 (T := 115) (v := b2 (hasP σ (lowv (b_shr x 3) 4))) ?_ (fun J => ?_)
    · skip
      refine g_istore (pc := 115) dL_law_115 (by decide) rfl ?_
      simp only [List.set_cons_succ, List.set_cons_zero]
      refine g_iload (pc := 117) dL_law_117 rfl ?_
      refine g_iconst (pc := 119) dL_law_119 ?_
      refine g_c_ge (tgt := 231) (pc := 120) dL_law_120 (by omega) (by decide) (fun c120 => ?_) (fun c120 => ?_)
      · skip
        refine g_iload (pc := 231) dL_law_231 rfl ?_
        refine g_iconst (pc := 233) dL_law_233 ?_
        refine g_c_ne (tgt := 386) (pc := 234) dL_law_234 (by omega) (by decide) (fun c234 => ?_) (fun c234 => ?_)
        · skip
          refine g_iload (pc := 386) dL_law_386 rfl ?_
          refine g_iconst (pc := 388) dL_law_388 ?_
          refine g_c_ne (tgt := 528) (pc := 389) dL_law_389 (by omega) (by decide) (fun c389 => ?_) (fun c389 => ?_)
          · skip
            refine g_iload (pc := 528) dL_law_528 rfl ?_
            refine g_iconst (pc := 530) dL_law_530 ?_
            refine g_c_ne (tgt := 677) (pc := 531) dL_law_531 (by omega) (by decide) (fun c531 => ?_) (fun c531 => ?_)
            · skip
              refine g_iload (pc := 677) dL_law_677 rfl ?_
              refine g_bipush (pc := 679) dL_law_679 (by decide) ?_
              refine g_c_ne (tgt := 721) (pc := 681) dL_law_681 (by omega) (by decide) (fun c681 => ?_) (fun c681 => ?_)
              · skip
                exact G.bud (lk_7 ht hK hs hbi hnx hz (lowv_rng _ (by decide)) rfl (lowv_rng _ (by decide)) hT) (by omega) (by omega)
              · skip
                exact G.bud (lk_6 ht hK hs hbi hnx hz (lowv_rng _ (by decide)) rfl (lowv_rng _ (by decide)) hT) (by omega) (by omega)
            · skip
              exact G.bud (lk_5 ht hK hs hbi hnx hz (lowv_rng _ (by decide)) rfl (lowv_rng _ (by decide)) hT) (by omega) (by omega)
          · skip
            exact G.bud (lk_4 ht hK hs hbi hnx hz (lowv_rng _ (by decide)) rfl (lowv_rng _ (by decide)) hT) (by omega) (by omega)
        · skip
          exact G.bud (lk_3 ht hK hs hbi hnx hz (lowv_rng _ (by decide)) rfl (lowv_rng _ (by decide)) hT) (by omega) (by omega)
      · skip
        exact G.bud (lk_0 ht hK hs hbi hnx hz (lowv_rng _ (by decide)) rfl (lowv_rng _ (by decide)) hT) (by omega) (by omega)
    · skip
      refine g_c_ne (tgt := 114) (pc := 107) dL_law_107 (by omega) (by decide) (fun c107 => ?_) (fun c107 => ?_)
      · skip
        refine g_iconst (pc := 114) dL_law_114 ?_
        refine G.eqS (congrArg (fun z => vI z) (show 0 = b2 (hasP σ (lowv (b_shr x 3) 4)) by omega)) ?_
        exact J
      · skip
        refine g_iconst (pc := 110) dL_law_110 ?_
        refine g_goto (tgt := 115) (pc := 111) dL_law_111 (by decide) ?_
        refine G.eqS (congrArg (fun z => vI z) (show 1 = b2 (hasP σ (lowv (b_shr x 3) 4)) by omega)) ?_
        exact J
set_option maxRecDepth 100000 in
set_option maxHeartbeats 1000000 in
theorem t_L_law {n : Nat} {f : Nat → Int} (hn : n ≤ 260) : G M_L_law (some (n, f)) true false 0 [some (vR SCR), none, none, none, none, none, none, none, none, none, none, none, none, none, none, none, none] [] [] 102085 614755 LQ := by
  refine G.bud (bc := 102084 + 1) (bs := 614749 + 6) ?_ (by decide) (by decide)
  refine g_new (pc := 0) n_L_11 dL_law_0 (Nat.le_of_ble_eq_true rfl) ?_
  refine g_dup (pc := 3) dL_law_3 (fun z h => nomatch h) ?_
  refine G.eqw (w' := [cObj 3 [vN, vN, vN, vN, vN, vN]]) rfl ?_
  refine g_callI (pc := 4) (b := 0) (as := []) (bc' := 78) (bs' := 2607) okI_X3_init rfl l_L_118 dL_law_4 rfl (Nat.le_of_ble_eq_true rfl) (by decide) (Nat.le_of_ble_eq_true rfl) ⟨by omega, by omega⟩ t_X3_init (fun E w' h => nomatch h.1) (fun _ r w' h => by rw [h.2]; rfl) (fun r w' h => ?_)
  obtain ⟨hr9, rfl⟩ := h
  obtain rfl := Sum.inl.inj hr9
  simp only [Option.toList, List.nil_append]
  refine G.eqS (v' := vR 0) rfl ?_
  refine g_astore_n (i := 1) (pc := 7) dL_law_7 rfl (by decide) rfl ?_
  simp only [List.set_cons_succ, List.set_cons_zero]
  refine g_bipush (pc := 8) dL_law_8 (by decide) ?_
  refine G.bud (bc := 102005 + 1) (bs := 612135 + 7) ?_ (by decide) (by decide)
  refine g_newI (n := 7) (w := W79) (pc := 10) dL_law_10 (by decide) rfl (by decide) (Nat.le_of_ble_eq_true rfl) ?_
  refine G.eqS (v' := vR 79) rfl ?_
  refine g_astore_n (i := 2) (pc := 12) dL_law_12 rfl (by decide) rfl ?_
  simp only [List.set_cons_succ, List.set_cons_zero]
  refine g_bipush (pc := 13) dL_law_13 (by decide) ?_
  refine G.bud (bc := 102004 + 1) (bs := 612103 + 32) ?_ (by decide) (by decide)
  refine g_newL (n := 32) (w := (W79 ++ [cArr 0 7 fun _ => 0])) (pc := 15) dL_law_15 (by decide) rfl (by decide) (Nat.le_of_ble_eq_true rfl) ?_
  refine G.eqw (w' := W79 ++ [cArr 0 7 fun _ => 0, cArr 3 32 fun _ => 0]) (List.append_assoc ..) ?_
  refine G.eqS (v' := vR 80) rfl ?_
  refine g_astore_n (i := 3) (pc := 17) dL_law_17 rfl (by decide) rfl ?_
  simp only [List.set_cons_succ, List.set_cons_zero]
  refine g_bipush (pc := 18) dL_law_18 (by decide) ?_
  refine G.bud (bc := 102003 + 1) (bs := 612071 + 32) ?_ (by decide) (by decide)
  refine g_newI (n := 32) (w := (W79 ++ [cArr 0 7 fun _ => 0, cArr 3 32 fun _ => 0])) (pc := 20) dL_law_20 (by decide) rfl (by decide) (Nat.le_of_ble_eq_true rfl) ?_
  refine G.eqw (w' := W79 ++ [cArr 0 7 fun _ => 0, cArr 3 32 fun _ => 0, cArr 0 32 fun _ => 0]) (List.append_assoc ..) ?_
  refine G.eqS (v' := vR 81) rfl ?_
  refine g_astore (pc := 22) dL_law_22 (by decide) rfl ?_
  simp only [List.set_cons_succ, List.set_cons_zero]
  refine g_bipush (pc := 24) dL_law_24 (by decide) ?_
  refine G.bud (bc := 102002 + 1) (bs := 612064 + 7) ?_ (by decide) (by decide)
  refine g_newI (n := 7) (w := (W79 ++ [cArr 0 7 fun _ => 0, cArr 3 32 fun _ => 0, cArr 0 32 fun _ => 0])) (pc := 26) dL_law_26 (by decide) rfl (by decide) (Nat.le_of_ble_eq_true rfl) ?_
  refine G.eqw (w' := W79 ++ [cArr 0 7 fun _ => 0, cArr 3 32 fun _ => 0, cArr 0 32 fun _ => 0, cArr 0 7 fun _ => 0]) (List.append_assoc ..) ?_
  refine G.eqS (v' := vR 82) rfl ?_
  refine g_astore (pc := 28) dL_law_28 (by decide) rfl ?_
  simp only [List.set_cons_succ, List.set_cons_zero]
  refine g_bipush (pc := 30) dL_law_30 (by decide) ?_
  refine G.bud (bc := 102001 + 1) (bs := 612032 + 32) ?_ (by decide) (by decide)
  refine g_newL (n := 32) (w := (W79 ++ [cArr 0 7 fun _ => 0, cArr 3 32 fun _ => 0, cArr 0 32 fun _ => 0, cArr 0 7 fun _ => 0])) (pc := 32) dL_law_32 (by decide) rfl (by decide) (Nat.le_of_ble_eq_true rfl) ?_
  refine G.eqw (w' := W79 ++ [cArr 0 7 fun _ => 0, cArr 3 32 fun _ => 0, cArr 0 32 fun _ => 0, cArr 0 7 fun _ => 0, cArr 3 32 fun _ => 0]) (List.append_assoc ..) ?_
  refine G.eqS (v' := vR 83) rfl ?_
  refine g_astore (pc := 34) dL_law_34 (by decide) rfl ?_
  simp only [List.set_cons_succ, List.set_cons_zero]
  refine g_bipush (pc := 36) dL_law_36 (by decide) ?_
  refine G.bud (bc := 102000 + 1) (bs := 612000 + 32) ?_ (by decide) (by decide)
  refine g_newI (n := 32) (w := (W79 ++ [cArr 0 7 fun _ => 0, cArr 3 32 fun _ => 0, cArr 0 32 fun _ => 0, cArr 0 7 fun _ => 0, cArr 3 32 fun _ => 0])) (pc := 38) dL_law_38 (by decide) rfl (by decide) (Nat.le_of_ble_eq_true rfl) ?_
  refine G.eqw (w' := W79 ++ [cArr 0 7 fun _ => 0, cArr 3 32 fun _ => 0, cArr 0 32 fun _ => 0, cArr 0 7 fun _ => 0, cArr 3 32 fun _ => 0, cArr 0 32 fun _ => 0]) (List.append_assoc ..) ?_
  refine G.eqS (v' := vR 84) rfl ?_
  refine g_astore (pc := 40) dL_law_40 (by decide) rfl ?_
  simp only [List.set_cons_succ, List.set_cons_zero]
  refine G.eqw W85_eq ?_
  refine g_aload_n (i := 2) (pc := 42) dL_law_42 rfl rfl ?_
  refine g_iconst (pc := 43) dL_law_43 ?_
  refine g_iconst (pc := 44) dL_law_44 ?_
  refine g_iast (pc := 45) dL_law_45 c_79 (by omega) ?_
  refine G.eqw w_q ?_
  refine G.eqw (w' := cW k_00 (lawm s_new) d_00) (cW_eq9 qf_new um_new.symm rfl) ?_
  refine g_iconst (pc := 46) dL_law_46 ?_
  refine g_istore (pc := 47) dL_law_47 (by decide) rfl ?_
  simp only [List.set_cons_succ, List.set_cons_zero]
  exact G.phase (G.bud (lk_loop hn 0 (Nat.zero_le _) k_00 s_new d_00 ti_00 zi_00) (by decide) (by decide))
end LB9
