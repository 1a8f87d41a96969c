/-! MEMORY, processes, marriages, pressure (printed by wip/whole/mem4.py, but for the first row) -/
theorem pop4_ct {f : Nat → Int} (h : ∀ k, f k = 0 ∨ f k = 1) (hz : ∀ k, 4 ≤ k → f k = 0) : ((popN (bN f 4) : Nat) : Int) = ct (fun k => decide (f k = 1)) 4 := by
  have e1 : bN f 16 = bN f 4 := by
    simp only [bN, hz 4 (by decide), hz 5 (by decide), hz 6 (by decide), hz 7 (by decide), hz 8 (by decide), hz 9 (by decide), hz 10 (by decide), hz 11 (by decide), hz 12 (by decide), hz 13 (by decide), hz 14 (by decide), hz 15 (by decide)]
    simp
  have e2 : ct (fun k => decide (f k = 1)) 16 = ct (fun k => decide (f k = 1)) 4 := by
    simp only [ct, hz 4 (by decide), hz 5 (by decide), hz 6 (by decide), hz 7 (by decide), hz 8 (by decide), hz 9 (by decide), hz 10 (by decide), hz 11 (by decide), hz 12 (by decide), hz 13 (by decide), hz 14 (by decide), hz 15 (by decide)]
    simp
  have h9 := popN_ct h (fun k hk => hz k (by omega))
  rw [e1, e2] at h9
  exact h9
set_option maxRecDepth 20000 in
set_option maxHeartbeats 4000000 in
theorem t_X1_lowestUnusedProcess {w : List MC} {a : Nat} {σ : SG} {al : Bool} (hw : okM w a) (hi : Inv σ) : GM M_X1_lowestUnusedProcess al [vR a] (setM w a (mem σ)) 0 0 (dt (some (vI (lup σ))) (setM w a (mem σ))) := by
  show G _ none _ _ 0 [some (vR a), none] [] _ _ _ _
  refine g_iconst (pc := 0) dX1_lowestUnusedProcess_0 ?_
  refine g_istore_n (i := 1) (pc := 1) dX1_lowestUnusedProcess_1 rfl (by decide) rfl ?_
  simp only [List.set_cons_succ, List.set_cons_zero]
  refine lp_up (P := fun k => (∀ j : Nat, j < k → ¬ (!(hasP σ j)) = true) → G M_X1_lowestUnusedProcess none al al 2 [some (vR a), some (vI k)] [] (setM w a (mem σ)) 0 0 (dt (some (vI (lup σ))) (setM w a (mem σ)))) 4 ?_ ?_ 0 (Nat.zero_le _) (fun i h => absurd h (Nat.not_lt_zero i))
  · intro hH
    refine g_iload_n (i := 1) (pc := 2) dX1_lowestUnusedProcess_2 rfl rfl ?_
    refine g_iconst (pc := 3) dX1_lowestUnusedProcess_3 ?_
    refine g_c_ge (tgt := 23) (pc := 4) dX1_lowestUnusedProcess_4 (by omega) (by decide) (fun c4 => ?_) (fun c4 => absurd c4 (by omega))
    refine g_iconst (pc := 23) dX1_lowestUnusedProcess_23 ?_
    refine g_iret (pc := 24) rfl dX1_lowestUnusedProcess_24 (fun h => h) ?_
    exact dt_i (ff_none hH).symm rfl
  · intro k hk ih hH
    refine g_iload_n (i := 1) (pc := 2) dX1_lowestUnusedProcess_2 rfl rfl ?_
    refine g_iconst (pc := 3) dX1_lowestUnusedProcess_3 ?_
    refine g_c_ge (tgt := 23) (pc := 4) dX1_lowestUnusedProcess_4 (by omega) (by decide) (fun c4 => absurd c4 (by omega)) (fun c4 => ?_)
    refine g_aload_n (i := 0) (pc := 7) dX1_lowestUnusedProcess_7 rfl rfl ?_
    refine g_iload_n (i := 1) (pc := 8) dX1_lowestUnusedProcess_8 rfl rfl ?_
    refine g_v1 (pc := 9) okV_X1_hasProcess rfl l_X1_53 dX1_lowestUnusedProcess_9 (m_at0 hw) hc_1 (by decide) (by decide) (Nat.le_of_ble_eq_true rfl) (t_X1_hasProcess hw hi (by omega)) (by simp only [m_len]) ?_
    simp only [Option.toList, List.cons_append, List.nil_append]
    have bb := b2_rng (hasP (σ) ((k : Int)))
    refine g_z_ne (tgt := 17) (pc := 12) dX1_lowestUnusedProcess_12 (by omega) (by decide) (fun c12 => ?_) (fun c12 => ?_)
    · skip
      refine g_iinc (pc := 17) dX1_lowestUnusedProcess_17 rfl (by decide) rfl ?_
      simp only [List.set_cons_succ, List.set_cons_zero]
      refine g_goto (tgt := 2) (pc := 20) dX1_lowestUnusedProcess_20 (by decide) ?_
      refine ih (fun i h => ?_)
      rcases Nat.lt_or_ge i k with q | q
      · exact hH i q
      · rw [show i = k by omega, b2_1.mp (show b2 (hasP σ (k : Int)) = 1 by omega)]; decide
    · skip
      refine g_iload_n (i := 1) (pc := 15) dX1_lowestUnusedProcess_15 rfl rfl ?_
      refine g_iret (pc := 16) rfl dX1_lowestUnusedProcess_16 (fun h => h) ?_
      exact dt_i (ff_some (by rw [Bool.not_eq_true', Bool.eq_false_iff]; exact b2_0.mp (by omega)) hH hk).symm rfl
set_option maxRecDepth 20000 in
set_option maxHeartbeats 4000000 in
theorem t_X1_canFork {w : List MC} {a : Nat} {σ : SG} {al : Bool} (hw : okM w a) (hi : Inv σ) {p : Int} (h_p : -2147483648 ≤ p ∧ p < 2147483648) : GM M_X1_canFork al [vR a, vI p] (setM w a (mem σ)) 0 0 (dt (some (vI (b2 (canF σ p)))) (setM w a (mem σ))) := by
  show G _ none _ _ 0 [some (vR a), some (vI p)] [] _ _ _ _
  refine g_aload_n (i := 0) (pc := 0) dX1_canFork_0 rfl rfl ?_
  refine g_iload_n (i := 1) (pc := 1) dX1_canFork_1 rfl rfl ?_
  refine g_v1 (pc := 2) okV_X1_hasProcess rfl l_X1_53 dX1_canFork_2 (m_at0 hw) hc_1 (by decide) (by decide) (Nat.le_of_ble_eq_true rfl) (t_X1_hasProcess hw hi (by omega)) (by simp only [m_len]) ?_
  simp only [Option.toList, List.cons_append, List.nil_append]
  have bb := b2_rng (hasP (σ) (p))
  refine g_z_eq (tgt := 20) (pc := 5) dX1_canFork_5 (by omega) (by decide) (fun c5 => ?_) (fun c5 => ?_)
  · skip
    refine g_iconst (pc := 20) dX1_canFork_20 ?_
    refine g_zret (pc := 21) rfl dX1_canFork_21 (by omega) (fun h => h) ?_
    first
    | exact dt_i (b2_t (by rw [canF, Bool.and_eq_true, decide_eq_true_eq]; exact ⟨b2_1.mp (by omega), by omega⟩)).symm rfl
    | exact dt_i (b2_f (by rw [canF, Bool.and_eq_true, decide_eq_true_eq]; intro h; have h1 := b2_1.mpr h.1; omega)).symm rfl
  · skip
    refine g_aload_n (i := 0) (pc := 8) dX1_canFork_8 rfl rfl ?_
    refine g_v0 (pc := 9) okV_X1_lowestUnusedProcess rfl l_X1_140 dX1_canFork_9 (m_at0 hw) hc_1 (by decide) (by decide) (Nat.le_of_ble_eq_true rfl) (t_X1_lowestUnusedProcess hw hi) (by simp only [m_len]) ?_
    simp only [Option.toList, List.cons_append, List.nil_append]
    have bb := lup_rng (σ)
    refine g_iconst (pc := 12) dX1_canFork_12 ?_
    refine g_c_eq (tgt := 20) (pc := 13) dX1_canFork_13 (by omega) (by decide) (fun c13 => ?_) (fun c13 => ?_)
    · skip
      refine g_iconst (pc := 20) dX1_canFork_20 ?_
      refine g_zret (pc := 21) rfl dX1_canFork_21 (by omega) (fun h => h) ?_
      first
      | exact dt_i (b2_t (by rw [canF, Bool.and_eq_true, decide_eq_true_eq]; exact ⟨b2_1.mp (by omega), by omega⟩)).symm rfl
      | exact dt_i (b2_f (by rw [canF, Bool.and_eq_true, decide_eq_true_eq]; intro h; have h1 := b2_1.mpr h.1; omega)).symm rfl
    · skip
      refine g_iconst (pc := 16) dX1_canFork_16 ?_
      refine g_goto (tgt := 21) (pc := 17) dX1_canFork_17 (by decide) ?_
      refine g_zret (pc := 21) rfl dX1_canFork_21 (by omega) (fun h => h) ?_
      first
      | exact dt_i (b2_t (by rw [canF, Bool.and_eq_true, decide_eq_true_eq]; exact ⟨b2_1.mp (by omega), by omega⟩)).symm rfl
      | exact dt_i (b2_f (by rw [canF, Bool.and_eq_true, decide_eq_true_eq]; intro h; have h1 := b2_1.mpr h.1; omega)).symm rfl
set_option maxRecDepth 20000 in
set_option maxHeartbeats 4000000 in
theorem t_X1_doFork {w : List MC} {a : Nat} {σ : SG} {al : Bool} (hw : okM w a) (hi : Inv σ) {p : Int} (h_p : -2147483648 ≤ p ∧ p < 2147483648) : GM M_X1_doFork al [vR a, vI p] (setM w a (mem σ)) 0 0 (dt (some (vI (if canF σ p = true then lup σ else -1))) (setM w a (mem (if canF σ p = true then s_for σ p else σ)))) := by
  show G _ none _ _ 0 [some (vR a), some (vI p), none, none, none] [] _ _ _ _
  refine g_aload_n (i := 0) (pc := 0) dX1_doFork_0 rfl rfl ?_
  refine g_v0 (pc := 1) okV_X1_lowestUnusedProcess rfl l_X1_140 dX1_doFork_1 (m_at0 hw) hc_1 (by decide) (by decide) (Nat.le_of_ble_eq_true rfl) (t_X1_lowestUnusedProcess hw hi) (by simp only [m_len]) ?_
  simp only [Option.toList, List.cons_append, List.nil_append]
  have bb := lup_rng (σ)
  refine g_istore_n (i := 2) (pc := 4) dX1_doFork_4 rfl (by decide) rfl ?_
  simp only [List.set_cons_succ, List.set_cons_zero]
  refine g_aload_n (i := 0) (pc := 5) dX1_doFork_5 rfl rfl ?_
  refine g_iload_n (i := 1) (pc := 6) dX1_doFork_6 rfl rfl ?_
  refine g_v1 (pc := 7) okV_X1_hasProcess rfl l_X1_53 dX1_doFork_7 (m_at0 hw) hc_1 (by decide) (by decide) (Nat.le_of_ble_eq_true rfl) (t_X1_hasProcess hw hi (by omega)) (by simp only [m_len]) ?_
  simp only [Option.toList, List.cons_append, List.nil_append]
  have bb := b2_rng (hasP (σ) (p))
  refine g_z_eq (tgt := 18) (pc := 10) dX1_doFork_10 (by omega) (by decide) (fun c10 => ?_) (fun c10 => ?_)
  · skip
    refine g_iconst (pc := 18) dX1_doFork_18 ?_
    refine g_iret (pc := 19) rfl dX1_doFork_19 (fun h => h) ?_
    have h_c : ¬ canF σ p = true := by
      rw [canF, Bool.and_eq_true, decide_eq_true_eq]
      intro h
      have h1 := b2_1.mpr h.1
      omega
    rw [if_neg h_c, if_neg h_c]
    exact dt_i rfl rfl
  · skip
    refine g_iload_n (i := 2) (pc := 13) dX1_doFork_13 rfl rfl ?_
    refine g_iconst (pc := 14) dX1_doFork_14 ?_
    refine g_c_ne (tgt := 20) (pc := 15) dX1_doFork_15 (by omega) (by decide) (fun c15 => ?_) (fun c15 => ?_)
    · skip
      have hl9 := lup_rng σ
      have h_c : canF σ p = true := by
        rw [canF, Bool.and_eq_true, decide_eq_true_eq]
        exact ⟨b2_1.mp (by omega), by omega⟩
      rw [if_pos h_c, if_pos h_c]
      have hl8 : lup σ ≠ -1 := by omega
      have hx0 := lup_ex hi hl8
      have hxe : s_ex (s_setex σ (lup σ).toNat 1) (lup σ).toNat = 1 := up_s _ _ _
      have hi0 := hi
      have hi := inv_ex1 hi (k := (lup σ).toNat) (by omega)
      refine g_aload_n (i := 0) (pc := 20) dX1_doFork_20 rfl rfl ?_
      refine g_dup (pc := 21) dX1_doFork_21 (fun z h => nomatch h) ?_
      refine g_getf (pc := 22) f_X1_24 dX1_doFork_22 (m_at0 hw) rfl ?_
      refine g_iconst (pc := 25) dX1_doFork_25 ?_
      refine g_iload_n (i := 2) (pc := 26) dX1_doFork_26 rfl rfl ?_
      refine g_ishl (pc := 27) dX1_doFork_27 ?_
      refine g_ior (pc := 28) dX1_doFork_28 ?_
      refine g_put (pc := 29) ft_X1_24 dX1_doFork_29 (m_at0 hw) (Nat.le_of_ble_eq_true rfl) (fun _ => rfl) (fun _ => rfl) (fun h => nomatch h) ?_
      refine G.eqw (m_put3 hw) ?_
      obtain ⟨n, hn⟩ := Int.eq_ofNat_of_zero_le (show 0 ≤ lup σ by omega)
      refine G.eqw (congrArg (setM w a) (mem_ex (k := (lup σ).toNat) (x := 1) ?_)) ?_
      · rw [hn]
        exact z_set hi0.2.2.2.2.2.2.1 (by decide) (by omega)
      refine g_iconst (pc := 32) dX1_doFork_32 ?_
      refine g_istore_n (i := 3) (pc := 33) dX1_doFork_33 rfl (by decide) rfl ?_
      simp only [List.set_cons_succ, List.set_cons_zero]
      refine lp_up (P := fun k => G M_X1_doFork none al al 34 [some (vR a), some (vI p), some (vI (lup σ)), some (vI k), none] [] (setM w a (mem (s_fk (s_setex σ (lup σ).toNat 1) p (lup σ) k))) 0 0 (dt (some (vI (lup σ))) (setM w a (mem (s_for σ p))))) 16 ?_ ?_ 0 (Nat.zero_le _)
      · have hi := inv_fk hi (p := p) (c := lup σ) ⟨by omega, by omega, hxe⟩ 16 (by omega)
        show G _ _ _ _ _ _ _ _ _ _ _
        refine g_iload_n (i := 3) (pc := 34) dX1_doFork_34 rfl rfl ?_
        refine g_bipush (pc := 35) dX1_doFork_35 (by decide) ?_
        refine g_c_ge (tgt := 68) (pc := 37) dX1_doFork_37 (by omega) (by decide) (fun c37 => ?_) (fun c37 => absurd c37 (by omega))
        refine g_iconst (pc := 68) dX1_doFork_68 ?_
        refine g_istore_n (i := 3) (pc := 69) dX1_doFork_69 rfl (by decide) rfl ?_
        simp only [List.set_cons_succ, List.set_cons_zero]
        refine lp_up (P := fun k => G M_X1_doFork none al al 70 [some (vR a), some (vI p), some (vI (lup σ)), some (vI k), none] [] (setM w a (mem (s_fb (s_fk (s_setex σ (lup σ).toNat 1) p (lup σ) 16) p (lup σ) k))) 0 0 (dt (some (vI (lup σ))) (setM w a (mem (s_for σ p))))) 4 ?_ ?_ 0 (Nat.zero_le _)
        · show G _ _ _ _ _ _ _ _ _ _ _
          refine g_iload_n (i := 3) (pc := 70) dX1_doFork_70 rfl rfl ?_
          refine g_iconst (pc := 71) dX1_doFork_71 ?_
          refine g_c_ge (tgt := 96) (pc := 72) dX1_doFork_72 (by omega) (by decide) (fun c72 => ?_) (fun c72 => absurd c72 (by omega))
          refine g_iload_n (i := 2) (pc := 96) dX1_doFork_96 rfl rfl ?_
          refine g_iret (pc := 97) rfl dX1_doFork_97 (fun h => h) ?_
          exact dt_i rfl rfl
        · intro k hk ih
          have hi1 := hi
          have hi := inv_fb hi (p := p) (c := lup σ) ⟨by omega, by omega, by rw [fk_ex]; exact hxe⟩ k (by omega)
          have h_1 : s_bg (s_fb (s_fk (s_setex σ (lup σ).toNat 1) p (lup σ) 16) p (lup σ) k) (4 * lup σ + k).toNat = 0 := by
            rw [fb_bg _ p (lup σ) (fun i hi => by omega), fk_bg]
            have h := hi0.2.2.2.2.2.2.2.2.2.2 (lup σ).toNat k (by omega) (by omega) hx0
            rw [show 4 * (lup σ).toNat + k = (4 * lup σ + (k : Int)).toNat by omega] at h
            exact h
          show G _ _ _ _ _ _ _ _ _ _ _
          refine g_iload_n (i := 3) (pc := 70) dX1_doFork_70 rfl rfl ?_
          refine g_iconst (pc := 71) dX1_doFork_71 ?_
          refine g_c_ge (tgt := 96) (pc := 72) dX1_doFork_72 (by omega) (by decide) (fun c72 => absurd c72 (by omega)) (fun c72 => ?_)
          refine g_aload_n (i := 0) (pc := 75) dX1_doFork_75 rfl rfl ?_
          refine g_iload_n (i := 1) (pc := 76) dX1_doFork_76 rfl rfl ?_
          refine g_iload_n (i := 3) (pc := 77) dX1_doFork_77 rfl rfl ?_
          refine g_v2 (pc := 78) okV_X1_isBig rfl l_X1_77 dX1_doFork_78 (m_at0 hw) hc_1 (by decide) (by decide) (Nat.le_of_ble_eq_true rfl) (t_X1_isBig hw hi (by omega) (by omega)) (by simp only [m_len]) ?_
          simp only [Option.toList, List.cons_append, List.nil_append]
          have bb := b2_rng (big (s_fb (s_fk (s_setex σ (lup σ).toNat 1) p (lup σ) 16) p (lup σ) k) (p) ((k : Int)))
          refine g_z_eq (tgt := 90) (pc := 81) dX1_doFork_81 (by omega) (by decide) (fun c81 => ?_) (fun c81 => ?_)
          · skip
            refine g_iinc (pc := 90) dX1_doFork_90 rfl (by decide) rfl ?_
            simp only [List.set_cons_succ, List.set_cons_zero]
            refine g_goto (tgt := 70) (pc := 93) dX1_doFork_93 (by decide) ?_
            refine G.eqw (congrArg (fun z => setM w a (mem z)) ?_) ih
            show _ = s_setbg (s_fb (s_fk (s_setex σ (lup σ).toNat 1) p (lup σ) 16) p (lup σ) k) (4 * lup σ + k).toNat (b2 (big (s_fb (s_fk (s_setex σ (lup σ).toNat 1) p (lup σ) 16) p (lup σ) k) p k))
            rw [show b2 (big (s_fb (s_fk (s_setex σ (lup σ).toNat 1) p (lup σ) 16) p (lup σ) k) p k) = 0 by omega]
            unfold s_setbg
            rw [up_id h_1]
          · skip
            refine g_aload_n (i := 0) (pc := 84) dX1_doFork_84 rfl rfl ?_
            refine g_iload_n (i := 2) (pc := 85) dX1_doFork_85 rfl rfl ?_
            refine g_iload_n (i := 3) (pc := 86) dX1_doFork_86 rfl rfl ?_
            refine g_v2 (pc := 87) okV_X1_becomeBig rfl l_X1_128 dX1_doFork_87 (m_at0 hw) hc_1 (by decide) (by decide) (Nat.le_of_ble_eq_true rfl) (t_X1_becomeBig hw hi (by omega) (by omega)) (by simp only [m_len]) ?_
            simp only [Option.toList, List.cons_append, List.nil_append]
            refine g_iinc (pc := 90) dX1_doFork_90 rfl (by decide) rfl ?_
            simp only [List.set_cons_succ, List.set_cons_zero]
            refine g_goto (tgt := 70) (pc := 93) dX1_doFork_93 (by decide) ?_
            refine G.eqw (congrArg (fun z => setM w a (mem z)) ?_) ih
            show _ = s_setbg (s_fb (s_fk (s_setex σ (lup σ).toNat 1) p (lup σ) 16) p (lup σ) k) (4 * lup σ + k).toNat (b2 (big (s_fb (s_fk (s_setex σ (lup σ).toNat 1) p (lup σ) 16) p (lup σ) k) p k))
            rw [show b2 (big (s_fb (s_fk (s_setex σ (lup σ).toNat 1) p (lup σ) 16) p (lup σ) k) p k) = 1 by omega]
      · intro k hk ih
        have hi1 := hi
        have hi := inv_fk hi (p := p) (c := lup σ) ⟨by omega, by omega, hxe⟩ k (by omega)
        have h_1 : s_fr (s_fk (s_setex σ (lup σ).toNat 1) p (lup σ) k) (16 * lup σ + k).toNat = -1 := by
          rw [fk_fr _ p (lup σ) (fun i hi => by omega)]
          have h := hi0.2.2.2.2.2.2.2.2.2.1 (lup σ).toNat k (by omega) (by omega) hx0
          rw [show 16 * (lup σ).toNat + k = (16 * lup σ + (k : Int)).toNat by omega] at h
          exact h
        show G _ _ _ _ _ _ _ _ _ _ _
        refine g_iload_n (i := 3) (pc := 34) dX1_doFork_34 rfl rfl ?_
        refine g_bipush (pc := 35) dX1_doFork_35 (by decide) ?_
        refine g_c_ge (tgt := 68) (pc := 37) dX1_doFork_37 (by omega) (by decide) (fun c37 => absurd c37 (by omega)) (fun c37 => ?_)
        refine g_aload_n (i := 0) (pc := 40) dX1_doFork_40 rfl rfl ?_
        refine g_iload_n (i := 1) (pc := 41) dX1_doFork_41 rfl rfl ?_
        refine g_iload_n (i := 3) (pc := 42) dX1_doFork_42 rfl rfl ?_
        refine g_v2 (pc := 43) okV_X1_frameOf rfl l_X1_73 dX1_doFork_43 (m_at0 hw) hc_1 (by decide) (by decide) (Nat.le_of_ble_eq_true rfl) (t_X1_frameOf hw hi (by omega) (by omega)) (by simp only [m_len]) ?_
        simp only [Option.toList, List.cons_append, List.nil_append]
        have bb := fo_rng hi (p) ((k : Int))
        refine g_istore (pc := 46) dX1_doFork_46 (by decide) rfl ?_
        simp only [List.set_cons_succ, List.set_cons_zero]
        refine g_iload (pc := 48) dX1_doFork_48 rfl ?_
        refine g_iconst (pc := 50) dX1_doFork_50 ?_
        refine g_c_eq (tgt := 62) (pc := 51) dX1_doFork_51 (by omega) (by decide) (fun c51 => ?_) (fun c51 => ?_)
        · skip
          refine g_iinc (pc := 62) dX1_doFork_62 rfl (by decide) rfl ?_
          simp only [List.set_cons_succ, List.set_cons_zero]
          refine g_goto (tgt := 34) (pc := 65) dX1_doFork_65 (by decide) ?_
          refine G.drop 4 ?_
          simp only [List.set_cons_succ, List.set_cons_zero]
          refine G.eqw (congrArg (fun z => setM w a (mem z)) ?_) ih
          show _ = s_setfr (s_fk (s_setex σ (lup σ).toNat 1) p (lup σ) k) (16 * lup σ + k).toNat (fo (s_fk (s_setex σ (lup σ).toNat 1) p (lup σ) k) p k)
          unfold s_setfr
          rw [up_id (by omega)]
        · skip
          refine g_aload_n (i := 0) (pc := 54) dX1_doFork_54 rfl rfl ?_
          refine g_iload_n (i := 2) (pc := 55) dX1_doFork_55 rfl rfl ?_
          refine g_iload_n (i := 3) (pc := 56) dX1_doFork_56 rfl rfl ?_
          refine g_iload (pc := 57) dX1_doFork_57 rfl ?_
          refine g_v3 (pc := 59) okV_X1_takeFrame rfl l_X1_125 dX1_doFork_59 (m_at0 hw) hc_1 (by decide) (by decide) (Nat.le_of_ble_eq_true rfl) (t_X1_takeFrame hw (by omega) (by omega) (by omega) (by first | assumption | omega)) (by simp only [m_len]) ?_
          simp only [Option.toList, List.cons_append, List.nil_append]
          refine g_iinc (pc := 62) dX1_doFork_62 rfl (by decide) rfl ?_
          simp only [List.set_cons_succ, List.set_cons_zero]
          refine g_goto (tgt := 34) (pc := 65) dX1_doFork_65 (by decide) ?_
          refine G.drop 4 ?_
          simp only [List.set_cons_succ, List.set_cons_zero]
          exact ih
    · skip
      refine g_iconst (pc := 18) dX1_doFork_18 ?_
      refine g_iret (pc := 19) rfl dX1_doFork_19 (fun h => h) ?_
      have h_c : ¬ canF σ p = true := by
        rw [canF, Bool.and_eq_true, decide_eq_true_eq]
        intro h
        have h1 := b2_1.mpr h.1
        omega
      rw [if_neg h_c, if_neg h_c]
      exact dt_i rfl rfl
set_option maxRecDepth 20000 in
set_option maxHeartbeats 4000000 in
theorem t_X1_canExit {w : List MC} {a : Nat} {σ : SG} {al : Bool} (hw : okM w a) (hi : Inv σ) {p : Int} (h_p : -2147483648 ≤ p ∧ p < 2147483648) : GM M_X1_canExit al [vR a, vI p] (setM w a (mem σ)) 0 0 (dt (some (vI (b2 (canE σ p)))) (setM w a (mem σ))) := by
  show G _ none _ _ 0 [some (vR a), some (vI p)] [] _ _ _ _
  refine g_aload_n (i := 0) (pc := 0) dX1_canExit_0 rfl rfl ?_
  refine g_iload_n (i := 1) (pc := 1) dX1_canExit_1 rfl rfl ?_
  refine g_v1 (pc := 2) okV_X1_hasProcess rfl l_X1_53 dX1_canExit_2 (m_at0 hw) hc_1 (by decide) (by decide) (Nat.le_of_ble_eq_true rfl) (t_X1_hasProcess hw hi (by omega)) (by simp only [m_len]) ?_
  simp only [Option.toList, List.cons_append, List.nil_append]
  have bb := b2_rng (hasP (σ) (p))
  refine g_z_eq (tgt := 23) (pc := 5) dX1_canExit_5 (by omega) (by decide) (fun c5 => ?_) (fun c5 => ?_)
  · skip
    refine g_iconst (pc := 23) dX1_canExit_23 ?_
    refine g_zret (pc := 24) rfl dX1_canExit_24 (by omega) (fun h => h) ?_
    first
    | exact dt_i (b2_t (by rw [canE, Bool.and_eq_true, decide_eq_true_eq]; exact ⟨b2_1.mp (by omega), by omega⟩)).symm rfl
    | exact dt_i (b2_f (by rw [canE, Bool.and_eq_true, decide_eq_true_eq]; intro h; have h1 := b2_1.mpr h.1; omega)).symm rfl
  · skip
    refine g_aload_n (i := 0) (pc := 8) dX1_canExit_8 rfl rfl ?_
    refine g_getf (pc := 9) f_X1_24 dX1_canExit_9 (m_at0 hw) rfl ?_
    refine G.eqS (congrArg (fun z => vI z) (show (mem σ).2.2.2.1 = ((bN (s_ex σ) 4 : Nat) : Int) from bN_eq hi.2.2.2.2.2.2.1 4)) ?_
    refine g_s1 (pc := 12) okS_J6_bitCount_0f7a4 rfl l_X1_63 dX1_canExit_12 (by decide) (by decide) (Nat.le_of_ble_eq_true rfl) (t_J6_bitCount_0f7a4 (N := bN (s_ex σ) 4) (Nat.lt_trans (bN_lt _ 4) (by decide))) rfl ?_
    simp only [Option.toList, List.cons_append, List.nil_append]
    refine G.eqS (congrArg (fun z => vI z) (show _ = nex σ from pop4_ct hi.2.2.2.2.2.2.1 hi.2.2.2.2.2.2.2.1)) ?_
    have bb := nex_rng σ
    refine g_iconst (pc := 15) dX1_canExit_15 ?_
    refine g_c_le (tgt := 23) (pc := 16) dX1_canExit_16 (by omega) (by decide) (fun c16 => ?_) (fun c16 => ?_)
    · skip
      refine g_iconst (pc := 23) dX1_canExit_23 ?_
      refine g_zret (pc := 24) rfl dX1_canExit_24 (by omega) (fun h => h) ?_
      first
      | exact dt_i (b2_t (by rw [canE, Bool.and_eq_true, decide_eq_true_eq]; exact ⟨b2_1.mp (by omega), by omega⟩)).symm rfl
      | exact dt_i (b2_f (by rw [canE, Bool.and_eq_true, decide_eq_true_eq]; intro h; have h1 := b2_1.mpr h.1; omega)).symm rfl
    · skip
      refine g_iconst (pc := 19) dX1_canExit_19 ?_
      refine g_goto (tgt := 24) (pc := 20) dX1_canExit_20 (by decide) ?_
      refine g_zret (pc := 24) rfl dX1_canExit_24 (by omega) (fun h => h) ?_
      first
      | exact dt_i (b2_t (by rw [canE, Bool.and_eq_true, decide_eq_true_eq]; exact ⟨b2_1.mp (by omega), by omega⟩)).symm rfl
      | exact dt_i (b2_f (by rw [canE, Bool.and_eq_true, decide_eq_true_eq]; intro h; have h1 := b2_1.mpr h.1; omega)).symm rfl
set_option maxRecDepth 20000 in
set_option maxHeartbeats 4000000 in
theorem t_X1_doExit {w : List MC} {a : Nat} {σ : SG} {al : Bool} (hw : okM w a) (hi : Inv σ) {p : Int} (h_p : -2147483648 ≤ p ∧ p < 2147483648) : GM M_X1_doExit al [vR a, vI p] (setM w a (mem σ)) 0 0 (dt (some (vI (if canE σ p = true then nff (s_le σ p 16) - nff σ else -1))) (setM w a (mem (if canE σ p = true then s_end σ p else σ)))) := by
  show G _ none _ _ 0 [some (vR a), some (vI p), none, none] [] _ _ _ _
  refine g_aload_n (i := 0) (pc := 0) dX1_doExit_0 rfl rfl ?_
  refine g_iload_n (i := 1) (pc := 1) dX1_doExit_1 rfl rfl ?_
  refine g_v1 (pc := 2) okV_X1_canExit rfl l_X1_143 dX1_doExit_2 (m_at0 hw) hc_1 (by decide) (by decide) (Nat.le_of_ble_eq_true rfl) (t_X1_canExit hw hi (by omega)) (by simp only [m_len]) ?_
  simp only [Option.toList, List.cons_append, List.nil_append]
  have bb := b2_rng (canE (σ) (p))
  refine g_z_ne (tgt := 10) (pc := 5) dX1_doExit_5 (by omega) (by decide) (fun c5 => ?_) (fun c5 => ?_)
  · skip
    have h_c : canE σ p = true := b2_1.mp (by omega)
    rw [if_pos h_c, if_pos h_c]
    have h_p := (ex_of (show hasP σ p = true by rw [canE, Bool.and_eq_true] at h_c; exact h_c.1))
    have hi0 := hi
    refine g_iconst (pc := 10) dX1_doExit_10 ?_
    refine g_istore_n (i := 2) (pc := 11) dX1_doExit_11 rfl (by decide) rfl ?_
    simp only [List.set_cons_succ, List.set_cons_zero]
    refine g_iconst (pc := 12) dX1_doExit_12 ?_
    refine g_istore_n (i := 3) (pc := 13) dX1_doExit_13 rfl (by decide) rfl ?_
    simp only [List.set_cons_succ, List.set_cons_zero]
    refine G.eqL (L' := [some (vR a), some (vI p), some (vI (nff (s_le σ p 0) - nff σ)), some (vI ((0 : Nat) : Int))]) (by rw [show nff (s_le σ p 0) - nff σ = 0 from Int.sub_self _]; rfl) ?_
    refine lp_up (P := fun k => G M_X1_doExit none al al 14 [some (vR a), some (vI p), some (vI (nff (s_le σ p k) - nff σ)), some (vI k)] [] (setM w a (mem (s_le σ p k))) 0 0 (dt (some (vI (nff (s_le σ p 16) - nff σ))) (setM w a (mem (s_end σ p))))) 16 ?_ ?_ 0 (Nat.zero_le _)
    · have hi := inv_le hi (p := p) (by omega) 16 (by omega)
      show G _ _ _ _ _ _ _ _ _ _ _
      refine g_iload_n (i := 3) (pc := 14) dX1_doExit_14 rfl rfl ?_
      refine g_bipush (pc := 15) dX1_doExit_15 (by decide) ?_
      refine g_c_ge (tgt := 35) (pc := 17) dX1_doExit_17 (by omega) (by decide) (fun c17 => ?_) (fun c17 => absurd c17 (by omega))
      refine g_iconst (pc := 35) dX1_doExit_35 ?_
      refine g_istore_n (i := 3) (pc := 36) dX1_doExit_36 rfl (by decide) rfl ?_
      simp only [List.set_cons_succ, List.set_cons_zero]
      refine lp_up (P := fun k => G M_X1_doExit none al al 37 [some (vR a), some (vI p), some (vI (nff (s_le σ p 16) - nff σ)), some (vI k)] [] (setM w a (mem (s_ls (s_le σ p 16) p k))) 0 0 (dt (some (vI (nff (s_le σ p 16) - nff σ))) (setM w a (mem (s_end σ p))))) 4 ?_ ?_ 0 (Nat.zero_le _)
      · have hi := inv_ls hi (p := p) (by omega) 4 (by omega)
        show G _ _ _ _ _ _ _ _ _ _ _
        refine g_iload_n (i := 3) (pc := 37) dX1_doExit_37 rfl rfl ?_
        refine g_iconst (pc := 38) dX1_doExit_38 ?_
        refine g_c_ge (tgt := 54) (pc := 39) dX1_doExit_39 (by omega) (by decide) (fun c39 => ?_) (fun c39 => absurd c39 (by omega))
        refine g_aload_n (i := 0) (pc := 54) dX1_doExit_54 rfl rfl ?_
        refine g_dup (pc := 55) dX1_doExit_55 (fun z h => nomatch h) ?_
        refine g_getf (pc := 56) f_X1_24 dX1_doExit_56 (m_at0 hw) rfl ?_
        refine g_iconst (pc := 59) dX1_doExit_59 ?_
        refine g_iload_n (i := 1) (pc := 60) dX1_doExit_60 rfl rfl ?_
        refine g_ishl (pc := 61) dX1_doExit_61 ?_
        refine g_iconst (pc := 62) dX1_doExit_62 ?_
        refine g_ixor (pc := 63) dX1_doExit_63 ?_
        refine g_iand (pc := 64) dX1_doExit_64 ?_
        refine g_put (pc := 65) ft_X1_24 dX1_doExit_65 (m_at0 hw) (Nat.le_of_ble_eq_true rfl) (fun _ => rfl) (fun _ => rfl) (fun h => nomatch h) ?_
        refine G.eqw (m_put3 hw) ?_
        obtain ⟨n, hn⟩ := Int.eq_ofNat_of_zero_le (show 0 ≤ p by omega)
        refine G.eqw (congrArg (setM w a) (mem_ex (k := p.toNat) (x := 0) ?_)) ?_
        · rw [hn]
          exact z_clr hi.2.2.2.2.2.2.1 (by decide) (by omega)
        refine g_iload_n (i := 2) (pc := 68) dX1_doExit_68 rfl rfl ?_
        refine g_iret (pc := 69) rfl dX1_doExit_69 (fun h => h) ?_
        exact dt_i rfl rfl
      · intro k hk ih
        have hi1 := hi
        have hi := inv_ls hi (p := p) (by omega) k (by omega)
        show G _ _ _ _ _ _ _ _ _ _ _
        refine g_iload_n (i := 3) (pc := 37) dX1_doExit_37 rfl rfl ?_
        refine g_iconst (pc := 38) dX1_doExit_38 ?_
        refine g_c_ge (tgt := 54) (pc := 39) dX1_doExit_39 (by omega) (by decide) (fun c39 => absurd c39 (by omega)) (fun c39 => ?_)
        refine g_aload_n (i := 0) (pc := 42) dX1_doExit_42 rfl rfl ?_
        refine g_iload_n (i := 1) (pc := 43) dX1_doExit_43 rfl rfl ?_
        refine g_iload_n (i := 3) (pc := 44) dX1_doExit_44 rfl rfl ?_
        refine g_v2 (pc := 45) okV_X1_becomeSmall rfl l_X1_92 dX1_doExit_45 (m_at0 hw) hc_1 (by decide) (by decide) (Nat.le_of_ble_eq_true rfl) (t_X1_becomeSmall hw hi (by omega) (by omega)) (by simp only [m_len]) ?_
        simp only [Option.toList, List.cons_append, List.nil_append]
        have hi := inv_bg (k := (4 * p + (k : Int)).toNat) (x := 0) hi (by omega) (Or.inl rfl) (Or.inl rfl)
        refine g_iinc (pc := 48) dX1_doExit_48 rfl (by decide) rfl ?_
        simp only [List.set_cons_succ, List.set_cons_zero]
        refine g_goto (tgt := 37) (pc := 51) dX1_doExit_51 (by decide) ?_
        exact ih
    · intro k hk ih
      have hi1 := hi
      have hi := inv_le hi (p := p) (by omega) k (by omega)
      show G _ _ _ _ _ _ _ _ _ _ _
      refine g_iload_n (i := 3) (pc := 14) dX1_doExit_14 rfl rfl ?_
      refine g_bipush (pc := 15) dX1_doExit_15 (by decide) ?_
      refine g_c_ge (tgt := 35) (pc := 17) dX1_doExit_17 (by omega) (by decide) (fun c17 => absurd c17 (by omega)) (fun c17 => ?_)
      refine g_iload_n (i := 2) (pc := 20) dX1_doExit_20 rfl rfl ?_
      refine g_aload_n (i := 0) (pc := 21) dX1_doExit_21 rfl rfl ?_
      refine g_iload_n (i := 1) (pc := 22) dX1_doExit_22 rfl rfl ?_
      refine g_iload_n (i := 3) (pc := 23) dX1_doExit_23 rfl rfl ?_
      refine g_v2 (pc := 24) okV_X1_letGo rfl l_X1_137 dX1_doExit_24 (m_at0 hw) hc_1 (by decide) (by decide) (Nat.le_of_ble_eq_true rfl) (t_X1_letGo hw hi (by omega) (by omega)) (by simp only [m_len]) ?_
      simp only [Option.toList, List.cons_append, List.nil_append]
      have hi := inv_fr (k := (16 * p + (k : Int)).toNat) (x := -1) hi (by omega) (by omega) (Or.inl rfl)
      refine g_iadd (pc := 27) dX1_doExit_27 ?_
      refine g_istore_n (i := 2) (pc := 28) dX1_doExit_28 rfl (by decide) rfl ?_
      simp only [List.set_cons_succ, List.set_cons_zero]
      refine g_iinc (pc := 29) dX1_doExit_29 rfl (by decide) rfl ?_
      simp only [List.set_cons_succ, List.set_cons_zero]
      refine g_goto (tgt := 14) (pc := 32) dX1_doExit_32 (by decide) ?_
      refine G.eqL (congrArg (fun z => [some (vR a), some (vI p), some (vI z), some (vI ((k : Int) + 1))]) ?_) ih
      have h9 := nff_let (σ := s_le σ p k) (p := p) (v := (k : Int)) (inv_le hi1 (p := p) (by omega) k (by omega)) (by omega) (by omega)
      have h8 : nff (s_le σ p (k + 1)) = nff (s_setfr (s_le σ p k) (16 * p + (k : Int)).toNat (-1)) := rfl
      omega
  · skip
    refine g_iconst (pc := 8) dX1_doExit_8 ?_
    refine g_iret (pc := 9) rfl dX1_doExit_9 (fun h => h) ?_
    have h_c : ¬ canE σ p = true := b2_0.mp (by omega)
    rw [if_neg h_c, if_neg h_c]
    exact dt_i rfl rfl
set_option maxRecDepth 20000 in
set_option maxHeartbeats 4000000 in
theorem t_X1_isInPlace {w : List MC} {a : Nat} {σ : SG} {al : Bool} (hw : okM w a) (hi : Inv σ) {p g : Int} (h_p : -2147483648 ≤ p ∧ p < 2147483648) (h_g : -536870000 ≤ g ∧ g < 536870000) : GM M_X1_isInPlace al [vR a, vI p, vI g] (setM w a (mem σ)) 0 0 (dt (some (vI (b2 (ip σ p g)))) (setM w a (mem σ))) := by
  show G _ none _ _ 0 [some (vR a), some (vI p), some (vI g), none, none] [] _ _ _ _
  refine g_aload_n (i := 0) (pc := 0) dX1_isInPlace_0 rfl rfl ?_
  refine g_iload_n (i := 1) (pc := 1) dX1_isInPlace_1 rfl rfl ?_
  refine g_iconst (pc := 2) dX1_isInPlace_2 ?_
  refine g_iload_n (i := 2) (pc := 3) dX1_isInPlace_3 rfl rfl ?_
  refine g_imul (pc := 4) dX1_isInPlace_4 ?_
  refine g_v2 (pc := 5) okV_X1_frameOf rfl l_X1_73 dX1_isInPlace_5 (m_at0 hw) hc_1 (by decide) (by decide) (Nat.le_of_ble_eq_true rfl) (t_X1_frameOf hw hi (by omega) (by omega)) (by simp only [m_len]) ?_
  simp only [Option.toList, List.cons_append, List.nil_append]
  have bb := fo_rng hi (p) ((4 * g))
  refine g_istore_n (i := 3) (pc := 8) dX1_isInPlace_8 rfl (by decide) rfl ?_
  simp only [List.set_cons_succ, List.set_cons_zero]
  refine g_iload_n (i := 3) (pc := 9) dX1_isInPlace_9 rfl rfl ?_
  refine g_iconst (pc := 10) dX1_isInPlace_10 ?_
  refine g_c_eq (tgt := 20) (pc := 11) dX1_isInPlace_11 (by omega) (by decide) (fun c11 => ?_) (fun c11 => ?_)
  · skip
    refine g_iconst (pc := 20) dX1_isInPlace_20 ?_
    refine g_zret (pc := 21) rfl dX1_isInPlace_21 (by omega) (fun h => h) ?_
    refine dt_i (b2_f ?_).symm rfl
    unfold ip
    rw [decide_eq_true_eq]
    rintro ⟨q1, q2, q3⟩
    omega
  · skip
    refine g_iload_n (i := 3) (pc := 14) dX1_isInPlace_14 rfl rfl ?_
    refine g_iconst (pc := 15) dX1_isInPlace_15 ?_
    refine g_irem (pc := 16) dX1_isInPlace_16 (by omega) (by omega) ?_
    have d9 := Int.tmod_eq_emod_of_nonneg (a := fo σ p (4 * g)) (b := 4) (by omega)
    refine g_z_eq (tgt := 22) (pc := 17) dX1_isInPlace_17 (by omega) (by decide) (fun c17 => ?_) (fun c17 => ?_)
    · skip
      refine g_iconst (pc := 22) dX1_isInPlace_22 ?_
      refine g_istore (pc := 23) dX1_isInPlace_23 (by decide) rfl ?_
      simp only [List.set_cons_succ, List.set_cons_zero]
      refine lp_up (P := fun k => (1 ≤ k ∧ ∀ i : Nat, i < k → 1 ≤ i → fo σ p (4 * g + i) = fo σ p (4 * g) + i) → G M_X1_isInPlace none al al 25 [some (vR a), some (vI p), some (vI g), some (vI (fo σ p (4 * g))), some (vI k)] [] (setM w a (mem σ)) 0 0 (dt (some (vI (b2 (ip σ p g)))) (setM w a (mem σ)))) 4 ?_ ?_ 1 (by decide) ⟨Nat.le_refl 1, fun i h h1 => absurd h (by omega)⟩
      · rintro ⟨h1k, hH⟩
        refine g_iload (pc := 25) dX1_isInPlace_25 rfl ?_
        refine g_iconst (pc := 27) dX1_isInPlace_27 ?_
        refine g_c_ge (tgt := 57) (pc := 28) dX1_isInPlace_28 (by omega) (by decide) (fun c28 => ?_) (fun c28 => absurd c28 (by omega))
        refine g_iconst (pc := 57) dX1_isInPlace_57 ?_
        refine g_zret (pc := 58) rfl dX1_isInPlace_58 (by omega) (fun h => h) ?_
        refine dt_i (b2_t ?_).symm rfl
        unfold ip
        rw [decide_eq_true_eq]
        exact ⟨by omega, by omega, hH⟩
      · rintro k hk ih ⟨h1k, hH⟩
        refine g_iload (pc := 25) dX1_isInPlace_25 rfl ?_
        refine g_iconst (pc := 27) dX1_isInPlace_27 ?_
        refine g_c_ge (tgt := 57) (pc := 28) dX1_isInPlace_28 (by omega) (by decide) (fun c28 => absurd c28 (by omega)) (fun c28 => ?_)
        refine g_aload_n (i := 0) (pc := 31) dX1_isInPlace_31 rfl rfl ?_
        refine g_iload_n (i := 1) (pc := 32) dX1_isInPlace_32 rfl rfl ?_
        refine g_iconst (pc := 33) dX1_isInPlace_33 ?_
        refine g_iload_n (i := 2) (pc := 34) dX1_isInPlace_34 rfl rfl ?_
        refine g_imul (pc := 35) dX1_isInPlace_35 ?_
        refine g_iload (pc := 36) dX1_isInPlace_36 rfl ?_
        refine g_iadd (pc := 38) dX1_isInPlace_38 ?_
        refine g_v2 (pc := 39) okV_X1_frameOf rfl l_X1_73 dX1_isInPlace_39 (m_at0 hw) hc_1 (by decide) (by decide) (Nat.le_of_ble_eq_true rfl) (t_X1_frameOf hw hi (by omega) (by omega)) (by simp only [m_len]) ?_
        simp only [Option.toList, List.cons_append, List.nil_append]
        have bb := fo_rng hi (p) (((4 * g) + (k : Int)))
        refine g_iload_n (i := 3) (pc := 42) dX1_isInPlace_42 rfl rfl ?_
        refine g_iload (pc := 43) dX1_isInPlace_43 rfl ?_
        refine g_iadd (pc := 45) dX1_isInPlace_45 ?_
        refine g_c_eq (tgt := 51) (pc := 46) dX1_isInPlace_46 (by omega) (by decide) (fun c46 => ?_) (fun c46 => ?_)
        · skip
          refine g_iinc (pc := 51) dX1_isInPlace_51 rfl (by decide) rfl ?_
          simp only [List.set_cons_succ, List.set_cons_zero]
          refine g_goto (tgt := 25) (pc := 54) dX1_isInPlace_54 (by decide) ?_
          refine ih ⟨by omega, fun i h h1 => ?_⟩
          rcases Nat.lt_or_ge i k with q | q
          · exact hH i q h1
          · rw [show i = k by omega]; omega
        · skip
          refine g_iconst (pc := 49) dX1_isInPlace_49 ?_
          refine g_zret (pc := 50) rfl dX1_isInPlace_50 (by omega) (fun h => h) ?_
          refine dt_i (b2_f ?_).symm rfl
          unfold ip
          rw [decide_eq_true_eq]
          rintro ⟨q1, q2, q3⟩
          have q4 := q3 k (by omega) h1k
          omega
    · skip
      refine g_iconst (pc := 20) dX1_isInPlace_20 ?_
      refine g_zret (pc := 21) rfl dX1_isInPlace_21 (by omega) (fun h => h) ?_
      refine dt_i (b2_f ?_).symm rfl
      unfold ip
      rw [decide_eq_true_eq]
      rintro ⟨q1, q2, q3⟩
      omega
set_option maxRecDepth 20000 in
set_option maxHeartbeats 4000000 in
theorem t_X1_obstacleToMarriage {w : List MC} {a : Nat} {σ : SG} {al : Bool} (hw : okM w a) (hi : Inv σ) {p g : Int} (h_p : -2147483648 ≤ p ∧ p < 2147483648) (h_g : -536870000 ≤ g ∧ g < 536870000) : GM M_X1_obstacleToMarriage al [vR a, vI p, vI g] (setM w a (mem σ)) 0 0 (dt (some (vI (wn σ p g))) (setM w a (mem σ))) := by
  show G _ none _ _ 0 [some (vR a), some (vI p), some (vI g)] [] _ _ _ _
  refine g_aload_n (i := 0) (pc := 0) dX1_obstacleToMarriage_0 rfl rfl ?_
  refine g_iload_n (i := 1) (pc := 1) dX1_obstacleToMarriage_1 rfl rfl ?_
  refine g_iload_n (i := 2) (pc := 2) dX1_obstacleToMarriage_2 rfl rfl ?_
  refine g_v2 (pc := 3) okV_X1_isBig rfl l_X1_77 dX1_obstacleToMarriage_3 (m_at0 hw) hc_1 (by decide) (by decide) (Nat.le_of_ble_eq_true rfl) (t_X1_isBig hw hi (by omega) (by omega)) (by simp only [m_len]) ?_
  simp only [Option.toList, List.cons_append, List.nil_append]
  have bb := b2_rng (big (σ) (p) (g))
  refine g_z_eq (tgt := 11) (pc := 6) dX1_obstacleToMarriage_6 (by omega) (by decide) (fun c6 => ?_) (fun c6 => ?_)
  · skip
    refine g_aload_n (i := 0) (pc := 11) dX1_obstacleToMarriage_11 rfl rfl ?_
    refine g_iload_n (i := 1) (pc := 12) dX1_obstacleToMarriage_12 rfl rfl ?_
    refine g_iload_n (i := 2) (pc := 13) dX1_obstacleToMarriage_13 rfl rfl ?_
    refine g_v2 (pc := 14) okV_X1_pagesWithFrame rfl l_X1_115 dX1_obstacleToMarriage_14 (m_at0 hw) hc_1 (by decide) (by decide) (Nat.le_of_ble_eq_true rfl) (t_X1_pagesWithFrame hw hi (by omega) (by omega)) (by simp only [m_len]) ?_
    simp only [Option.toList, List.cons_append, List.nil_append]
    have bb := pf_rng (σ) (p) (g)
    refine g_iconst (pc := 17) dX1_obstacleToMarriage_17 ?_
    refine g_c_ge (tgt := 23) (pc := 18) dX1_obstacleToMarriage_18 (by omega) (by decide) (fun c18 => ?_) (fun c18 => ?_)
    · skip
      refine g_aload_n (i := 0) (pc := 23) dX1_obstacleToMarriage_23 rfl rfl ?_
      refine g_iload_n (i := 1) (pc := 24) dX1_obstacleToMarriage_24 rfl rfl ?_
      refine g_iload_n (i := 2) (pc := 25) dX1_obstacleToMarriage_25 rfl rfl ?_
      refine g_v2 (pc := 26) okV_X1_pagesWithSharedFrame rfl l_X1_80 dX1_obstacleToMarriage_26 (m_at0 hw) hc_1 (by decide) (by decide) (Nat.le_of_ble_eq_true rfl) (t_X1_pagesWithSharedFrame hw hi (by omega) (by omega)) (by simp only [m_len]) ?_
      simp only [Option.toList, List.cons_append, List.nil_append]
      have bb := ps_rng (σ) (p) (g)
      refine g_z_le (tgt := 34) (pc := 29) dX1_obstacleToMarriage_29 (by omega) (by decide) (fun c29 => ?_) (fun c29 => ?_)
      · skip
        refine g_aload_n (i := 0) (pc := 34) dX1_obstacleToMarriage_34 rfl rfl ?_
        refine g_iload_n (i := 1) (pc := 35) dX1_obstacleToMarriage_35 rfl rfl ?_
        refine g_iload_n (i := 2) (pc := 36) dX1_obstacleToMarriage_36 rfl rfl ?_
        refine g_v2 (pc := 37) okV_X1_isInPlace rfl l_X1_146 dX1_obstacleToMarriage_37 (m_at0 hw) hc_1 (by decide) (by decide) (Nat.le_of_ble_eq_true rfl) (t_X1_isInPlace hw hi (by omega) (by omega)) (by simp only [m_len]) ?_
        simp only [Option.toList, List.cons_append, List.nil_append]
        have bb := b2_rng (ip (σ) (p) (g))
        refine g_z_ne (tgt := 51) (pc := 40) dX1_obstacleToMarriage_40 (by omega) (by decide) (fun c40 => ?_) (fun c40 => ?_)
        · skip
          refine g_iconst (pc := 51) dX1_obstacleToMarriage_51 ?_
          refine g_goto (tgt := 56) (pc := 52) dX1_obstacleToMarriage_52 (by decide) ?_
          refine g_iret (pc := 56) rfl dX1_obstacleToMarriage_56 (fun h => h) ?_
          refine dt_i ?_ rfl
          unfold wn
          rw [if_neg (b2_0.mp (by omega)), if_neg (by omega), if_neg (by omega)]
          first
          | (rw [if_pos (Or.inl (b2_1.mp (by omega)))]; done)
          | (rw [if_pos (Or.inr (by omega))]; done)
          | (rw [if_neg (by
              rintro (q | q)
              · have q2 := b2_1.mpr q
                omega
              · omega)])
        · skip
          refine g_aload_n (i := 0) (pc := 43) dX1_obstacleToMarriage_43 rfl rfl ?_
          refine g_v0 (pc := 44) okV_X1_lowestFreeRun rfl l_X1_112 dX1_obstacleToMarriage_44 (m_at0 hw) hc_1 (by decide) (by decide) (Nat.le_of_ble_eq_true rfl) (t_X1_lowestFreeRun hw hi) (by simp only [m_len]) ?_
          simp only [Option.toList, List.cons_append, List.nil_append]
          have bb := lfr_rng (σ)
          refine g_iconst (pc := 47) dX1_obstacleToMarriage_47 ?_
          refine g_c_eq (tgt := 55) (pc := 48) dX1_obstacleToMarriage_48 (by omega) (by decide) (fun c48 => ?_) (fun c48 => ?_)
          · skip
            refine g_iconst (pc := 55) dX1_obstacleToMarriage_55 ?_
            refine g_iret (pc := 56) rfl dX1_obstacleToMarriage_56 (fun h => h) ?_
            refine dt_i ?_ rfl
            unfold wn
            rw [if_neg (b2_0.mp (by omega)), if_neg (by omega), if_neg (by omega)]
            first
            | (rw [if_pos (Or.inl (b2_1.mp (by omega)))]; done)
            | (rw [if_pos (Or.inr (by omega))]; done)
            | (rw [if_neg (by
                rintro (q | q)
                · have q2 := b2_1.mpr q
                  omega
                · omega)])
          · skip
            refine g_iconst (pc := 51) dX1_obstacleToMarriage_51 ?_
            refine g_goto (tgt := 56) (pc := 52) dX1_obstacleToMarriage_52 (by decide) ?_
            refine g_iret (pc := 56) rfl dX1_obstacleToMarriage_56 (fun h => h) ?_
            refine dt_i ?_ rfl
            unfold wn
            rw [if_neg (b2_0.mp (by omega)), if_neg (by omega), if_neg (by omega)]
            first
            | (rw [if_pos (Or.inl (b2_1.mp (by omega)))]; done)
            | (rw [if_pos (Or.inr (by omega))]; done)
            | (rw [if_neg (by
                rintro (q | q)
                · have q2 := b2_1.mpr q
                  omega
                · omega)])
      · skip
        refine g_iconst (pc := 32) dX1_obstacleToMarriage_32 ?_
        refine g_iret (pc := 33) rfl dX1_obstacleToMarriage_33 (fun h => h) ?_
        refine dt_i ?_ rfl
        unfold wn
        rw [if_neg (b2_0.mp (by omega)), if_neg (by omega), if_pos (by omega)]
    · skip
      refine g_iconst (pc := 21) dX1_obstacleToMarriage_21 ?_
      refine g_iret (pc := 22) rfl dX1_obstacleToMarriage_22 (fun h => h) ?_
      refine dt_i ?_ rfl
      unfold wn
      rw [if_neg (b2_0.mp (by omega)), if_pos (by omega)]
  · skip
    refine g_iconst (pc := 9) dX1_obstacleToMarriage_9 ?_
    refine g_iret (pc := 10) rfl dX1_obstacleToMarriage_10 (fun h => h) ?_
    refine dt_i ?_ rfl
    unfold wn
    rw [if_pos (b2_1.mp (by omega))]
set_option maxRecDepth 20000 in
set_option maxHeartbeats 4000000 in
theorem t_X1_moveTo {w : List MC} {a : Nat} {σ : SG} {al : Bool} (hw : okM w a) (hi : Inv σ) {p g : Int} (h_p : 0 ≤ p ∧ p < 4) (h_g : 0 ≤ g ∧ g < 4) {r : Int} (h_r : 0 ≤ r ∧ r < 8) (h_e : s_ex σ p.toNat = 1) (h_f : ∀ j : Nat, j < 4 → fo σ p (4 * g + j) ≠ -1) : GM M_X1_moveTo al [vR a, vI p, vI g, vI r] (setM w a (mem σ)) 0 0 (dt (some (vI 4)) (setM w a (mem (s_mv σ p g r 4)))) := by
  show G _ none _ _ 0 [some (vR a), some (vI p), some (vI g), some (vI r), none, none, none] [] _ _ _ _
  refine g_iload_n (i := 3) (pc := 0) dX1_moveTo_0 rfl rfl ?_
  refine g_iconst (pc := 1) dX1_moveTo_1 ?_
  refine g_c_ne (tgt := 7) (pc := 2) dX1_moveTo_2 (by omega) (by decide) (fun c2 => ?_) (fun c2 => absurd c2 (by omega))
  refine g_iconst (pc := 7) dX1_moveTo_7 ?_
  refine g_istore (pc := 8) dX1_moveTo_8 (by decide) rfl ?_
  simp only [List.set_cons_succ, List.set_cons_zero]
  refine lp_up (P := fun k => G M_X1_moveTo none al al 10 [some (vR a), some (vI p), some (vI g), some (vI r), some (vI k), none, none] [] (setM w a (mem (s_mv σ p g r k))) 0 0 (dt (some (vI 4)) (setM w a (mem (s_mv σ p g r 4))))) 4 ?_ ?_ 0 (Nat.zero_le _)
  · show G _ _ _ _ _ _ _ _ _ _ _
    refine g_iload (pc := 10) dX1_moveTo_10 rfl ?_
    refine g_iconst (pc := 12) dX1_moveTo_12 ?_
    refine g_c_ge (tgt := 69) (pc := 13) dX1_moveTo_13 (by omega) (by decide) (fun c13 => ?_) (fun c13 => absurd c13 (by omega))
    refine g_iconst (pc := 69) dX1_moveTo_69 ?_
    refine g_iret (pc := 70) rfl dX1_moveTo_70 (fun h => h) ?_
    exact dt_i rfl rfl
  · intro k hk ih
    have hi9 := inv_mv hi ⟨h_p.1, h_p.2, h_e⟩ h_g h_r h_f k (by omega)
    have hi8 := hi
    have hi := hi9
    show G _ _ _ _ _ _ _ _ _ _ _
    refine g_iload (pc := 10) dX1_moveTo_10 rfl ?_
    refine g_iconst (pc := 12) dX1_moveTo_12 ?_
    refine g_c_ge (tgt := 69) (pc := 13) dX1_moveTo_13 (by omega) (by decide) (fun c13 => absurd c13 (by omega)) (fun c13 => ?_)
    refine g_iconst (pc := 16) dX1_moveTo_16 ?_
    refine g_iload_n (i := 2) (pc := 17) dX1_moveTo_17 rfl rfl ?_
    refine g_imul (pc := 18) dX1_moveTo_18 ?_
    refine g_iload (pc := 19) dX1_moveTo_19 rfl ?_
    refine g_iadd (pc := 21) dX1_moveTo_21 ?_
    refine g_istore (pc := 22) dX1_moveTo_22 (by decide) rfl ?_
    simp only [List.set_cons_succ, List.set_cons_zero]
    refine g_iconst (pc := 24) dX1_moveTo_24 ?_
    refine g_iload_n (i := 3) (pc := 25) dX1_moveTo_25 rfl rfl ?_
    refine g_imul (pc := 26) dX1_moveTo_26 ?_
    refine g_iload (pc := 27) dX1_moveTo_27 rfl ?_
    refine g_iadd (pc := 29) dX1_moveTo_29 ?_
    refine g_istore (pc := 30) dX1_moveTo_30 (by decide) rfl ?_
    simp only [List.set_cons_succ, List.set_cons_zero]
    refine g_aload_n (i := 0) (pc := 32) dX1_moveTo_32 rfl rfl ?_
    refine g_getf (pc := 33) f_X1_18 dX1_moveTo_33 (m_at0 hw) rfl ?_
    refine g_iload (pc := 36) dX1_moveTo_36 rfl ?_
    refine g_aload_n (i := 0) (pc := 38) dX1_moveTo_38 rfl rfl ?_
    refine g_iload_n (i := 1) (pc := 39) dX1_moveTo_39 rfl rfl ?_
    refine g_iload (pc := 40) dX1_moveTo_40 rfl ?_
    refine g_v2 (pc := 42) okV_X1_valueOf rfl l_X1_89 dX1_moveTo_42 (m_at0 hw) hc_1 (by decide) (by decide) (Nat.le_of_ble_eq_true rfl) (t_X1_valueOf hw hi (by omega) (by omega)) (by simp only [m_len]) ?_
    simp only [Option.toList, List.cons_append, List.nil_append]
    have bb := vo_rng hi (p) (((4 * g) + (k : Int)))
    refine g_iast (pc := 45) dX1_moveTo_45 (m_at3 hw) (by omega) ?_
    refine G.eqw (m_set3 hw) ?_
    show G _ _ _ _ _ _ _ (setM w a (mem (s_setva (s_mv σ p g r k) (4 * r + k).toNat (vo (s_mv σ p g r k) p (4 * g + k))))) _ _ _
    have hi := inv_va (k := (4 * r + (k : Int)).toNat) (x := vo (s_mv σ p g r k) p (4 * g + k)) hi (by omega) (by
      have h7 := mv_fo (σ := σ) (r := r) h_p h_g hk
      have h6 := h_f k hk
      unfold vo
      rw [h7, if_neg h6]
      exact hi.2.2.2.2.1 _)
    refine g_aload_n (i := 0) (pc := 46) dX1_moveTo_46 rfl rfl ?_
    refine g_iload_n (i := 1) (pc := 47) dX1_moveTo_47 rfl rfl ?_
    refine g_iload (pc := 48) dX1_moveTo_48 rfl ?_
    refine g_v2 (pc := 50) okV_X1_letGo rfl l_X1_137 dX1_moveTo_50 (m_at0 hw) hc_1 (by decide) (by decide) (Nat.le_of_ble_eq_true rfl) (t_X1_letGo hw hi (by omega) (by omega)) (by simp only [m_len]) ?_
    simp only [Option.toList, List.cons_append, List.nil_append]
    have hi := inv_fr (k := (16 * p + ((4 * g) + (k : Int))).toNat) (x := -1) hi (by omega) (by omega) (Or.inl rfl)
    refine g_pop (pc := 53) dX1_moveTo_53 (fun z h => nomatch h) ?_
    have h_0 : s_fr (s_setfr (s_setva (s_mv σ p g r k) (4 * r + k).toNat (vo (s_mv σ p g r k) p (4 * g + k))) (16 * p + (4 * g + k)).toNat (-1)) (16 * p + (4 * g + (k : Int))).toNat = -1 := up_s _ _ _
    refine g_aload_n (i := 0) (pc := 54) dX1_moveTo_54 rfl rfl ?_
    refine g_iload_n (i := 1) (pc := 55) dX1_moveTo_55 rfl rfl ?_
    refine g_iload (pc := 56) dX1_moveTo_56 rfl ?_
    refine g_iload (pc := 58) dX1_moveTo_58 rfl ?_
    refine g_v3 (pc := 60) okV_X1_takeFrame rfl l_X1_125 dX1_moveTo_60 (m_at0 hw) hc_1 (by decide) (by decide) (Nat.le_of_ble_eq_true rfl) (t_X1_takeFrame hw (by omega) (by omega) (by omega) (by first | assumption | omega)) (by simp only [m_len]) ?_
    simp only [Option.toList, List.cons_append, List.nil_append]
    refine g_iinc (pc := 63) dX1_moveTo_63 rfl (by decide) rfl ?_
    simp only [List.set_cons_succ, List.set_cons_zero]
    refine g_goto (tgt := 10) (pc := 66) dX1_moveTo_66 (by decide) ?_
    refine G.drop 6 (G.drop 5 ?_)
    simp only [List.set_cons_succ, List.set_cons_zero]
    refine G.eqw (congrArg (fun z => setM w a (mem z)) ?_) ih
    show _ = s_setfr (s_setva (s_mv σ p g r k) (4 * r + k).toNat (vo (s_mv σ p g r k) p (4 * g + k))) (16 * p + (4 * g + k)).toNat (4 * r + k)
    unfold s_setfr
    exact congrArg (fun z => (z, _)) (up_up _ _ _ _)
set_option maxRecDepth 20000 in
set_option maxHeartbeats 4000000 in
theorem t_X1_doMarry {w : List MC} {a : Nat} {σ : SG} {al : Bool} (hw : okM w a) (hi : Inv σ) {p g : Int} (h_p : -2147483648 ≤ p ∧ p < 2147483648) (h_g : -2147483648 ≤ g ∧ g < 2147483648) : GM M_X1_doMarry al [vR a, vI p, vI g] (setM w a (mem σ)) 0 0 (dt (some (vI (if hasGr σ p g = true ∧ wn σ p g = 0 then (if ip σ p g = true then 0 else 4) else -1))) (setM w a (mem (if hasGr σ p g = true ∧ wn σ p g = 0 then s_mar σ p g else σ)))) := by
  show G _ none _ _ 0 [some (vR a), some (vI p), some (vI g), none] [] _ _ _ _
  refine g_aload_n (i := 0) (pc := 0) dX1_doMarry_0 rfl rfl ?_
  refine g_iload_n (i := 1) (pc := 1) dX1_doMarry_1 rfl rfl ?_
  refine g_iload_n (i := 2) (pc := 2) dX1_doMarry_2 rfl rfl ?_
  refine g_v2 (pc := 3) okV_X1_hasGroup rfl l_X1_149 dX1_doMarry_3 (m_at0 hw) hc_1 (by decide) (by decide) (Nat.le_of_ble_eq_true rfl) (t_X1_hasGroup hw hi (by omega) (by omega)) (by simp only [m_len]) ?_
  simp only [Option.toList, List.cons_append, List.nil_append]
  have bb := b2_rng (hasGr (σ) (p) (g))
  refine g_z_eq (tgt := 18) (pc := 6) dX1_doMarry_6 (by omega) (by decide) (fun c6 => ?_) (fun c6 => ?_)
  · skip
    refine g_iconst (pc := 18) dX1_doMarry_18 ?_
    refine g_iret (pc := 19) rfl dX1_doMarry_19 (fun h => h) ?_
    have h_c : ¬ (hasGr σ p g = true ∧ wn σ p g = 0) := by
      rintro ⟨q1, q2⟩
      have q3 := b2_1.mpr q1
      omega
    rw [if_neg h_c, if_neg h_c]
    exact dt_i rfl rfl
  · skip
    obtain ⟨⟨h_p1, h_p2, h_e⟩, h_g1, h_g2⟩ := ex_gr (b2_1.mp (show b2 (hasGr σ p g) = 1 by omega))
    have h_gr := b2_1.mp (show b2 (hasGr σ p g) = 1 by omega)
    refine g_aload_n (i := 0) (pc := 9) dX1_doMarry_9 rfl rfl ?_
    refine g_iload_n (i := 1) (pc := 10) dX1_doMarry_10 rfl rfl ?_
    refine g_iload_n (i := 2) (pc := 11) dX1_doMarry_11 rfl rfl ?_
    refine g_v2 (pc := 12) okV_X1_obstacleToMarriage rfl l_X1_152 dX1_doMarry_12 (m_at0 hw) hc_1 (by decide) (by decide) (Nat.le_of_ble_eq_true rfl) (t_X1_obstacleToMarriage hw hi (by omega) (by omega)) (by simp only [m_len]) ?_
    simp only [Option.toList, List.cons_append, List.nil_append]
    have bb := wn_rng (σ) (p) (g)
    refine g_z_eq (tgt := 20) (pc := 15) dX1_doMarry_15 (by omega) (by decide) (fun c15 => ?_) (fun c15 => ?_)
    · skip
      have h_c : hasGr σ p g = true ∧ wn σ p g = 0 := ⟨h_gr, by omega⟩
      rw [if_pos h_c, if_pos h_c]
      obtain ⟨n1, n2, n3, n4⟩ := wn_0 h_c.2
      refine g_aload_n (i := 0) (pc := 20) dX1_doMarry_20 rfl rfl ?_
      refine g_iload_n (i := 1) (pc := 21) dX1_doMarry_21 rfl rfl ?_
      refine g_iload_n (i := 2) (pc := 22) dX1_doMarry_22 rfl rfl ?_
      refine g_v2 (pc := 23) okV_X1_isInPlace rfl l_X1_146 dX1_doMarry_23 (m_at0 hw) hc_1 (by decide) (by decide) (Nat.le_of_ble_eq_true rfl) (t_X1_isInPlace hw hi (by omega) (by omega)) (by simp only [m_len]) ?_
      simp only [Option.toList, List.cons_append, List.nil_append]
      have bb := b2_rng (ip (σ) (p) (g))
      refine g_z_eq (tgt := 33) (pc := 26) dX1_doMarry_26 (by omega) (by decide) (fun c26 => ?_) (fun c26 => ?_)
      · skip
        refine g_aload_n (i := 0) (pc := 33) dX1_doMarry_33 rfl rfl ?_
        refine g_iload_n (i := 1) (pc := 34) dX1_doMarry_34 rfl rfl ?_
        refine g_iload_n (i := 2) (pc := 35) dX1_doMarry_35 rfl rfl ?_
        refine g_aload_n (i := 0) (pc := 36) dX1_doMarry_36 rfl rfl ?_
        refine g_v0 (pc := 37) okV_X1_lowestFreeRun rfl l_X1_112 dX1_doMarry_37 (m_at0 hw) hc_1 (by decide) (by decide) (Nat.le_of_ble_eq_true rfl) (t_X1_lowestFreeRun hw hi) (by simp only [m_len]) ?_
        simp only [Option.toList, List.cons_append, List.nil_append]
        have bb := lfr_rng (σ)
        have h_f : ∀ j : Nat, j < 4 → fo σ p (4 * g + j) ≠ -1 := fun j hj => pf_all n2 hj
        have h_l : lfr σ ≠ -1 := n4.resolve_left (b2_0.mp (by omega))
        refine g_v3 (pc := 40) okV_X1_moveTo rfl l_X1_155 dX1_doMarry_40 (m_at0 hw) hc_1 (by decide) (by decide) (Nat.le_of_ble_eq_true rfl) (t_X1_moveTo hw hi (by omega) (by omega) (by omega) h_e h_f) (by simp only [m_len]) ?_
        simp only [Option.toList, List.cons_append, List.nil_append]
        have hi := inv_mv (p := p) (g := g) (r := (lfr (σ))) hi ⟨by omega, by omega, h_e⟩ (by omega) (by omega) h_f 4 (by omega)
        refine g_istore_n (i := 3) (pc := 43) dX1_doMarry_43 rfl (by decide) rfl ?_
        simp only [List.set_cons_succ, List.set_cons_zero]
        refine g_aload_n (i := 0) (pc := 44) dX1_doMarry_44 rfl rfl ?_
        refine g_iload_n (i := 1) (pc := 45) dX1_doMarry_45 rfl rfl ?_
        refine g_iload_n (i := 2) (pc := 46) dX1_doMarry_46 rfl rfl ?_
        refine g_v2 (pc := 47) okV_X1_becomeBig rfl l_X1_128 dX1_doMarry_47 (m_at0 hw) hc_1 (by decide) (by decide) (Nat.le_of_ble_eq_true rfl) (t_X1_becomeBig hw hi (by omega) (by omega)) (by simp only [m_len]) ?_
        simp only [Option.toList, List.cons_append, List.nil_append]
        refine g_aload_n (i := 0) (pc := 50) dX1_doMarry_50 rfl rfl ?_
        refine g_dup (pc := 51) dX1_doMarry_51 (fun z h => nomatch h) ?_
        refine g_getf (pc := 52) f_X1_35 dX1_doMarry_52 (m_at0 hw) rfl ?_
        refine g_iload_n (i := 3) (pc := 55) dX1_doMarry_55 rfl rfl ?_
        refine g_iadd (pc := 56) dX1_doMarry_56 ?_
        refine g_put (pc := 57) ft_X1_35 dX1_doMarry_57 (m_at0 hw) (Nat.le_of_ble_eq_true rfl) (fun _ => rfl) (fun _ => rfl) (fun h => nomatch h) ?_
        refine G.eqw (m_put6 hw) ?_
        refine g_iload_n (i := 3) (pc := 60) dX1_doMarry_60 rfl rfl ?_
        refine g_iret (pc := 61) rfl dX1_doMarry_61 (fun h => h) ?_
        unfold s_mar
        first
        | (rw [if_pos (b2_1.mp (by omega)), if_pos (b2_1.mp (by omega))]; exact dt_i rfl rfl)
        | (rw [if_neg (b2_0.mp (by omega)), if_neg (b2_0.mp (by omega))]; exact dt_i rfl rfl)
      · skip
        refine g_iconst (pc := 29) dX1_doMarry_29 ?_
        refine g_goto (tgt := 43) (pc := 30) dX1_doMarry_30 (by decide) ?_
        refine g_istore_n (i := 3) (pc := 43) dX1_doMarry_43 rfl (by decide) rfl ?_
        simp only [List.set_cons_succ, List.set_cons_zero]
        refine g_aload_n (i := 0) (pc := 44) dX1_doMarry_44 rfl rfl ?_
        refine g_iload_n (i := 1) (pc := 45) dX1_doMarry_45 rfl rfl ?_
        refine g_iload_n (i := 2) (pc := 46) dX1_doMarry_46 rfl rfl ?_
        refine g_v2 (pc := 47) okV_X1_becomeBig rfl l_X1_128 dX1_doMarry_47 (m_at0 hw) hc_1 (by decide) (by decide) (Nat.le_of_ble_eq_true rfl) (t_X1_becomeBig hw hi (by omega) (by omega)) (by simp only [m_len]) ?_
        simp only [Option.toList, List.cons_append, List.nil_append]
        refine g_aload_n (i := 0) (pc := 50) dX1_doMarry_50 rfl rfl ?_
        refine g_dup (pc := 51) dX1_doMarry_51 (fun z h => nomatch h) ?_
        refine g_getf (pc := 52) f_X1_35 dX1_doMarry_52 (m_at0 hw) rfl ?_
        refine g_iload_n (i := 3) (pc := 55) dX1_doMarry_55 rfl rfl ?_
        refine g_iadd (pc := 56) dX1_doMarry_56 ?_
        refine g_put (pc := 57) ft_X1_35 dX1_doMarry_57 (m_at0 hw) (Nat.le_of_ble_eq_true rfl) (fun _ => rfl) (fun _ => rfl) (fun h => nomatch h) ?_
        refine G.eqw (m_put6 hw) ?_
        refine g_iload_n (i := 3) (pc := 60) dX1_doMarry_60 rfl rfl ?_
        refine g_iret (pc := 61) rfl dX1_doMarry_61 (fun h => h) ?_
        unfold s_mar
        first
        | (rw [if_pos (b2_1.mp (by omega)), if_pos (b2_1.mp (by omega))]; exact dt_i rfl rfl)
        | (rw [if_neg (b2_0.mp (by omega)), if_neg (b2_0.mp (by omega))]; exact dt_i rfl rfl)
    · skip
      refine g_iconst (pc := 18) dX1_doMarry_18 ?_
      refine g_iret (pc := 19) rfl dX1_doMarry_19 (fun h => h) ?_
      have h_c : ¬ (hasGr σ p g = true ∧ wn σ p g = 0) := by
        rintro ⟨q1, q2⟩
        have q3 := b2_1.mpr q1
        omega
      rw [if_neg h_c, if_neg h_c]
      exact dt_i rfl rfl
set_option maxRecDepth 20000 in
set_option maxHeartbeats 4000000 in
theorem t_X1_marryNext {w : List MC} {a : Nat} {σ : SG} {al : Bool} (hw : okM w a) (hi : Inv σ) : GM M_X1_marryNext al [vR a] (setM w a (mem σ)) 0 0 (dt (some (vI (b2 (decide (nxt σ ≠ -1))))) (setM w a (mem (if nxt σ ≠ -1 then s_mar σ (nxt σ / 4) (nxt σ % 4) else σ)))) := by
  show G _ none _ _ 0 [some (vR a), none, none, none, none] [] _ _ _ _
  refine g_iconst (pc := 0) dX1_marryNext_0 ?_
  refine g_istore_n (i := 1) (pc := 1) dX1_marryNext_1 rfl (by decide) rfl ?_
  simp only [List.set_cons_succ, List.set_cons_zero]
  refine g_iconst (pc := 2) dX1_marryNext_2 ?_
  refine g_istore_n (i := 2) (pc := 3) dX1_marryNext_3 rfl (by decide) rfl ?_
  simp only [List.set_cons_succ, List.set_cons_zero]
  refine lp_up (P := fun k => (∀ j : Nat, j < k → ¬ ((fun k : Nat => hasP σ ((k / 4 : Nat) : Int) && decide (wn σ ((k / 4 : Nat) : Int) ((k % 4 : Nat) : Int) = 0) && ip σ ((k / 4 : Nat) : Int) ((k % 4 : Nat) : Int)) j) = true) → G M_X1_marryNext none al al 4 [some (vR a), some (vI (ff (fun k : Nat => hasP σ ((k / 4 : Nat) : Int) && decide (wn σ ((k / 4 : Nat) : Int) ((k % 4 : Nat) : Int) = 0) && !(ip σ ((k / 4 : Nat) : Int) ((k % 4 : Nat) : Int))) k)), some (vI k), none, none] [] (setM w a (mem σ)) 0 0 (dt (some (vI (b2 (decide (nxt σ ≠ -1))))) (setM w a (mem (if nxt σ ≠ -1 then s_mar σ (nxt σ / 4) (nxt σ % 4) else σ))))) 16 ?_ ?_ 0 (Nat.zero_le _) (fun i h => absurd h (Nat.not_lt_zero i))
  · intro hH
    have e1 : mi1 σ = -1 := ff_none hH
    have e9 : nxt σ = mi0 σ := by unfold nxt; rw [if_pos e1]
    have e8 := nxt_rng σ
    refine G.eqL (L' := [some (vR a), some (vI (nxt σ)), some (vI ((16 : Nat) : Int)), none, none]) (by rw [e9]; rfl) ?_
    refine g_iload_n (i := 2) (pc := 4) dX1_marryNext_4 rfl rfl ?_
    refine g_bipush (pc := 5) dX1_marryNext_5 (by decide) ?_
    refine g_c_ge (tgt := 77) (pc := 7) dX1_marryNext_7 (by omega) (by decide) (fun c7 => ?_) (fun c7 => absurd c7 (by omega))
    refine g_iload_n (i := 1) (pc := 77) dX1_marryNext_77 rfl rfl ?_
    refine g_iconst (pc := 78) dX1_marryNext_78 ?_
    refine g_c_eq (tgt := 100) (pc := 79) dX1_marryNext_79 (by omega) (by decide) (fun c79 => ?_) (fun c79 => ?_)
    · skip
      refine g_iconst (pc := 100) dX1_marryNext_100 ?_
      refine g_zret (pc := 101) rfl dX1_marryNext_101 (by omega) (fun h => h) ?_
      first
      | (refine dt_i ?_ (congrArg (fun z => setM w a (mem z)) ?_)
         · rw [b2_t (decide_eq_true (show nxt σ ≠ -1 by omega))]
         · rw [if_pos k4, if_pos (show nxt σ ≠ -1 by omega)])
      | (refine dt_i ?_ (congrArg (fun z => setM w a (mem z)) ?_)
         · rw [b2_f (fun q => absurd (of_decide_eq_true q) (by omega))]
         · rw [if_neg (by omega)])
    · skip
      obtain ⟨k1, k2, k3⟩ := nxt_ok (show nxt σ ≠ -1 by omega)
      have k4 : hasGr σ (nxt σ / 4) (nxt σ % 4) = true ∧ wn σ (nxt σ / 4) (nxt σ % 4) = 0 := ⟨by
        unfold hasGr hasP
        rw [Bool.and_eq_true, decide_eq_true_eq, decide_eq_true_eq]
        exact ⟨k1, k2⟩, k3⟩
      have k5 : (if hasGr σ (nxt σ / 4) (nxt σ % 4) = true ∧ wn σ (nxt σ / 4) (nxt σ % 4) = 0 then (if ip σ (nxt σ / 4) (nxt σ % 4) = true then (0 : Int) else 4) else -1) ≠ -1 := by
        rw [if_pos k4]
        split <;> omega
      have k8 : -1 ≤ (if hasGr σ (nxt σ / 4) (nxt σ % 4) = true ∧ wn σ (nxt σ / 4) (nxt σ % 4) = 0 then (if ip σ (nxt σ / 4) (nxt σ % 4) = true then (0 : Int) else 4) else -1) ∧ (if hasGr σ (nxt σ / 4) (nxt σ % 4) = true ∧ wn σ (nxt σ / 4) (nxt σ % 4) = 0 then (if ip σ (nxt σ / 4) (nxt σ % 4) = true then (0 : Int) else 4) else -1) < 5 := by
        (repeat' split) <;> omega
      refine g_aload_n (i := 0) (pc := 82) dX1_marryNext_82 rfl rfl ?_
      refine g_iload_n (i := 1) (pc := 83) dX1_marryNext_83 rfl rfl ?_
      refine g_iconst (pc := 84) dX1_marryNext_84 ?_
      refine g_idiv (pc := 85) dX1_marryNext_85 (by omega) (by omega) ?_
      refine G.eqS (congrArg (fun z => vI z) (Int.tdiv_eq_ediv_of_nonneg (by omega))) ?_
      refine g_iload_n (i := 1) (pc := 86) dX1_marryNext_86 rfl rfl ?_
      refine g_iconst (pc := 87) dX1_marryNext_87 ?_
      refine g_irem (pc := 88) dX1_marryNext_88 (by omega) (by omega) ?_
      refine G.eqS (congrArg (fun z => vI z) (Int.tmod_eq_emod_of_nonneg (by omega))) ?_
      refine g_v2 (pc := 89) okV_X1_doMarry rfl l_X1_159 dX1_marryNext_89 (m_at0 hw) hc_1 (by decide) (by decide) (Nat.le_of_ble_eq_true rfl) (t_X1_doMarry hw hi (by omega) (by omega)) (by simp only [m_len]) ?_
      simp only [Option.toList, List.cons_append, List.nil_append]
      refine g_iconst (pc := 92) dX1_marryNext_92 ?_
      refine g_c_eq (tgt := 100) (pc := 93) dX1_marryNext_93 (by omega) (by decide) (fun c93 => absurd c93 (by omega)) (fun c93 => ?_)
      refine g_iconst (pc := 96) dX1_marryNext_96 ?_
      refine g_goto (tgt := 101) (pc := 97) dX1_marryNext_97 (by decide) ?_
      refine g_zret (pc := 101) rfl dX1_marryNext_101 (by omega) (fun h => h) ?_
      first
      | (refine dt_i ?_ (congrArg (fun z => setM w a (mem z)) ?_)
         · rw [b2_t (decide_eq_true (show nxt σ ≠ -1 by omega))]
         · rw [if_pos k4, if_pos (show nxt σ ≠ -1 by omega)])
      | (refine dt_i ?_ (congrArg (fun z => setM w a (mem z)) ?_)
         · rw [b2_f (fun q => absurd (of_decide_eq_true q) (by omega))]
         · rw [if_neg (by omega)])
  · intro k hk ih hH
    have y9 := ff_rng (fun k : Nat => hasP σ ((k / 4 : Nat) : Int) && decide (wn σ ((k / 4 : Nat) : Int) ((k % 4 : Nat) : Int) = 0) && !(ip σ ((k / 4 : Nat) : Int) ((k % 4 : Nat) : Int))) k
    show G _ _ _ _ _ _ _ _ _ _ _
    refine g_iload_n (i := 2) (pc := 4) dX1_marryNext_4 rfl rfl ?_
    refine g_bipush (pc := 5) dX1_marryNext_5 (by decide) ?_
    refine g_c_ge (tgt := 77) (pc := 7) dX1_marryNext_7 (by omega) (by decide) (fun c7 => absurd c7 (by omega)) (fun c7 => ?_)
    refine g_iload_n (i := 2) (pc := 10) dX1_marryNext_10 rfl rfl ?_
    refine g_iconst (pc := 11) dX1_marryNext_11 ?_
    refine g_idiv (pc := 12) dX1_marryNext_12 (by omega) (by omega) ?_
    refine G.eqS (congrArg (fun z => vI z) (n_dv k 4)) ?_
    refine g_istore_n (i := 3) (pc := 13) dX1_marryNext_13 rfl (by decide) rfl ?_
    simp only [List.set_cons_succ, List.set_cons_zero]
    refine g_iload_n (i := 2) (pc := 14) dX1_marryNext_14 rfl rfl ?_
    refine g_iconst (pc := 15) dX1_marryNext_15 ?_
    refine g_irem (pc := 16) dX1_marryNext_16 (by omega) (by omega) ?_
    refine G.eqS (congrArg (fun z => vI z) (n_md k 4)) ?_
    refine g_istore (pc := 17) dX1_marryNext_17 (by decide) rfl ?_
    simp only [List.set_cons_succ, List.set_cons_zero]
    refine g_aload_n (i := 0) (pc := 19) dX1_marryNext_19 rfl rfl ?_
    refine g_iload_n (i := 3) (pc := 20) dX1_marryNext_20 rfl rfl ?_
    refine g_v1 (pc := 21) okV_X1_hasProcess rfl l_X1_53 dX1_marryNext_21 (m_at0 hw) hc_1 (by decide) (by decide) (Nat.le_of_ble_eq_true rfl) (t_X1_hasProcess hw hi (by omega)) (by simp only [m_len]) ?_
    simp only [Option.toList, List.cons_append, List.nil_append]
    have bb := b2_rng (hasP (σ) (((k / 4 : Nat) : Int)))
    refine g_z_eq (tgt := 71) (pc := 24) dX1_marryNext_24 (by omega) (by decide) (fun c24 => ?_) (fun c24 => ?_)
    · skip
      refine g_iinc (pc := 71) dX1_marryNext_71 rfl (by decide) rfl ?_
      simp only [List.set_cons_succ, List.set_cons_zero]
      refine g_goto (tgt := 4) (pc := 74) dX1_marryNext_74 (by decide) ?_
      refine G.drop 4 (G.drop 3 ?_)
      simp only [List.set_cons_succ, List.set_cons_zero]
      refine G.eqL (congrArg (fun z => [some (vR a), some (vI z), some (vI ((k : Int) + 1)), none, none]) ?_) (ih (fun j hj => ?_))
      · rw [ff]
        have hn9 : ¬ ((fun k : Nat => hasP σ ((k / 4 : Nat) : Int) && decide (wn σ ((k / 4 : Nat) : Int) ((k % 4 : Nat) : Int) = 0) && !(ip σ ((k / 4 : Nat) : Int) ((k % 4 : Nat) : Int))) k) = true := by
          simp only [Bool.and_eq_true, decide_eq_true_eq]
          rintro ⟨⟨q1, q2⟩, q3⟩
          have q4 := b2_1.mpr q1
          omega
        rw [if_neg hn9]
        split
        · omega
        · rfl
      · rcases Nat.lt_or_ge j k with q | q
        · exact hH j q
        · rw [show j = k by omega]
          simp only [Bool.and_eq_true, decide_eq_true_eq]
          rintro ⟨⟨q1, q2⟩, q3⟩
          have q4 := b2_1.mpr q1
          have q5 := b2_1.mpr q3
          omega
    · skip
      refine g_aload_n (i := 0) (pc := 27) dX1_marryNext_27 rfl rfl ?_
      refine g_iload_n (i := 3) (pc := 28) dX1_marryNext_28 rfl rfl ?_
      refine g_iload (pc := 29) dX1_marryNext_29 rfl ?_
      refine g_v2 (pc := 31) okV_X1_obstacleToMarriage rfl l_X1_152 dX1_marryNext_31 (m_at0 hw) hc_1 (by decide) (by decide) (Nat.le_of_ble_eq_true rfl) (t_X1_obstacleToMarriage hw hi (by omega) (by omega)) (by simp only [m_len]) ?_
      simp only [Option.toList, List.cons_append, List.nil_append]
      have bb := wn_rng (σ) (((k / 4 : Nat) : Int)) (((k % 4 : Nat) : Int))
      refine g_z_ne (tgt := 71) (pc := 34) dX1_marryNext_34 (by omega) (by decide) (fun c34 => ?_) (fun c34 => ?_)
      · skip
        refine g_iinc (pc := 71) dX1_marryNext_71 rfl (by decide) rfl ?_
        simp only [List.set_cons_succ, List.set_cons_zero]
        refine g_goto (tgt := 4) (pc := 74) dX1_marryNext_74 (by decide) ?_
        refine G.drop 4 (G.drop 3 ?_)
        simp only [List.set_cons_succ, List.set_cons_zero]
        refine G.eqL (congrArg (fun z => [some (vR a), some (vI z), some (vI ((k : Int) + 1)), none, none]) ?_) (ih (fun j hj => ?_))
        · rw [ff]
          have hn9 : ¬ ((fun k : Nat => hasP σ ((k / 4 : Nat) : Int) && decide (wn σ ((k / 4 : Nat) : Int) ((k % 4 : Nat) : Int) = 0) && !(ip σ ((k / 4 : Nat) : Int) ((k % 4 : Nat) : Int))) k) = true := by
            simp only [Bool.and_eq_true, decide_eq_true_eq]
            rintro ⟨⟨q1, q2⟩, q3⟩
            have q4 := b2_1.mpr q1
            omega
          rw [if_neg hn9]
          split
          · omega
          · rfl
        · rcases Nat.lt_or_ge j k with q | q
          · exact hH j q
          · rw [show j = k by omega]
            simp only [Bool.and_eq_true, decide_eq_true_eq]
            rintro ⟨⟨q1, q2⟩, q3⟩
            have q4 := b2_1.mpr q1
            have q5 := b2_1.mpr q3
            omega
      · skip
        refine g_aload_n (i := 0) (pc := 37) dX1_marryNext_37 rfl rfl ?_
        refine g_iload_n (i := 3) (pc := 38) dX1_marryNext_38 rfl rfl ?_
        refine g_iload (pc := 39) dX1_marryNext_39 rfl ?_
        refine g_v2 (pc := 41) okV_X1_isInPlace rfl l_X1_146 dX1_marryNext_41 (m_at0 hw) hc_1 (by decide) (by decide) (Nat.le_of_ble_eq_true rfl) (t_X1_isInPlace hw hi (by omega) (by omega)) (by simp only [m_len]) ?_
        simp only [Option.toList, List.cons_append, List.nil_append]
        have bb := b2_rng (ip (σ) (((k / 4 : Nat) : Int)) (((k % 4 : Nat) : Int)))
        refine g_z_eq (tgt := 64) (pc := 44) dX1_marryNext_44 (by omega) (by decide) (fun c44 => ?_) (fun c44 => ?_)
        · skip
          refine g_iload_n (i := 1) (pc := 64) dX1_marryNext_64 rfl rfl ?_
          refine g_iconst (pc := 65) dX1_marryNext_65 ?_
          refine g_c_ne (tgt := 71) (pc := 66) dX1_marryNext_66 (by omega) (by decide) (fun c66 => ?_) (fun c66 => ?_)
          · skip
            refine g_iinc (pc := 71) dX1_marryNext_71 rfl (by decide) rfl ?_
            simp only [List.set_cons_succ, List.set_cons_zero]
            refine g_goto (tgt := 4) (pc := 74) dX1_marryNext_74 (by decide) ?_
            refine G.drop 4 (G.drop 3 ?_)
            simp only [List.set_cons_succ, List.set_cons_zero]
            refine G.eqL (congrArg (fun z => [some (vR a), some (vI z), some (vI ((k : Int) + 1)), none, none]) ?_) (ih (fun j hj => ?_))
            · rw [ff]
              have hy9 : ((fun k : Nat => hasP σ ((k / 4 : Nat) : Int) && decide (wn σ ((k / 4 : Nat) : Int) ((k % 4 : Nat) : Int) = 0) && !(ip σ ((k / 4 : Nat) : Int) ((k % 4 : Nat) : Int))) k) = true := by
                simp only [Bool.and_eq_true, decide_eq_true_eq]
                refine ⟨⟨b2_1.mp (by omega), by omega⟩, ?_⟩
                rw [Bool.not_eq_true', Bool.eq_false_iff]
                exact b2_0.mp (by omega)
              rw [if_pos hy9]
              first
              | (rw [if_pos (by omega)]; done)
              | rw [if_neg (by omega)]
            · rcases Nat.lt_or_ge j k with q | q
              · exact hH j q
              · rw [show j = k by omega]
                simp only [Bool.and_eq_true, decide_eq_true_eq]
                rintro ⟨⟨q1, q2⟩, q3⟩
                have q4 := b2_1.mpr q1
                have q5 := b2_1.mpr q3
                omega
          · skip
            refine g_iload_n (i := 2) (pc := 69) dX1_marryNext_69 rfl rfl ?_
            refine g_istore_n (i := 1) (pc := 70) dX1_marryNext_70 rfl (by decide) rfl ?_
            simp only [List.set_cons_succ, List.set_cons_zero]
            refine g_iinc (pc := 71) dX1_marryNext_71 rfl (by decide) rfl ?_
            simp only [List.set_cons_succ, List.set_cons_zero]
            refine g_goto (tgt := 4) (pc := 74) dX1_marryNext_74 (by decide) ?_
            refine G.drop 4 (G.drop 3 ?_)
            simp only [List.set_cons_succ, List.set_cons_zero]
            refine G.eqL (congrArg (fun z => [some (vR a), some (vI z), some (vI ((k : Int) + 1)), none, none]) ?_) (ih (fun j hj => ?_))
            · rw [ff]
              have hy9 : ((fun k : Nat => hasP σ ((k / 4 : Nat) : Int) && decide (wn σ ((k / 4 : Nat) : Int) ((k % 4 : Nat) : Int) = 0) && !(ip σ ((k / 4 : Nat) : Int) ((k % 4 : Nat) : Int))) k) = true := by
                simp only [Bool.and_eq_true, decide_eq_true_eq]
                refine ⟨⟨b2_1.mp (by omega), by omega⟩, ?_⟩
                rw [Bool.not_eq_true', Bool.eq_false_iff]
                exact b2_0.mp (by omega)
              rw [if_pos hy9]
              first
              | (rw [if_pos (by omega)]; done)
              | rw [if_neg (by omega)]
            · rcases Nat.lt_or_ge j k with q | q
              · exact hH j q
              · rw [show j = k by omega]
                simp only [Bool.and_eq_true, decide_eq_true_eq]
                rintro ⟨⟨q1, q2⟩, q3⟩
                have q4 := b2_1.mpr q1
                have q5 := b2_1.mpr q3
                omega
        · skip
          have h9 : mi1 σ = k := ff_some (p := fun k : Nat => hasP σ ((k / 4 : Nat) : Int) && decide (wn σ ((k / 4 : Nat) : Int) ((k % 4 : Nat) : Int) = 0) && ip σ ((k / 4 : Nat) : Int) ((k % 4 : Nat) : Int)) (by
            simp only [Bool.and_eq_true, decide_eq_true_eq]
            exact ⟨⟨b2_1.mp (by omega), by omega⟩, b2_1.mp (by omega)⟩) hH hk
          have h8 : nxt σ = k := by unfold nxt; rw [h9, if_neg (by omega)]
          obtain ⟨k1, k2, k3⟩ := nxt_ok (show nxt σ ≠ -1 by omega)
          have k6 : nxt σ / 4 = ((k / 4 : Nat) : Int) := by rw [h8]; rfl
          have k7 : nxt σ % 4 = ((k % 4 : Nat) : Int) := by rw [h8]; rfl
          rw [k6, k7] at k3
          rw [k6] at k1
          have k4 : hasGr σ ((k / 4 : Nat) : Int) ((k % 4 : Nat) : Int) = true ∧ wn σ ((k / 4 : Nat) : Int) ((k % 4 : Nat) : Int) = 0 := ⟨by
            unfold hasGr hasP
            rw [Bool.and_eq_true, decide_eq_true_eq, decide_eq_true_eq]
            exact ⟨k1, by omega⟩, k3⟩
          have k5 : (if hasGr σ ((k / 4 : Nat) : Int) ((k % 4 : Nat) : Int) = true ∧ wn σ ((k / 4 : Nat) : Int) ((k % 4 : Nat) : Int) = 0 then (if ip σ ((k / 4 : Nat) : Int) ((k % 4 : Nat) : Int) = true then (0 : Int) else 4) else -1) = 0 := by
            rw [if_pos k4, if_pos (b2_1.mp (by omega))]
          refine g_aload_n (i := 0) (pc := 47) dX1_marryNext_47 rfl rfl ?_
          refine g_iload_n (i := 3) (pc := 48) dX1_marryNext_48 rfl rfl ?_
          refine g_iload (pc := 49) dX1_marryNext_49 rfl ?_
          refine g_v2 (pc := 51) okV_X1_doMarry rfl l_X1_159 dX1_marryNext_51 (m_at0 hw) hc_1 (by decide) (by decide) (Nat.le_of_ble_eq_true rfl) (t_X1_doMarry hw hi (by omega) (by omega)) (by simp only [m_len]) ?_
          simp only [Option.toList, List.cons_append, List.nil_append]
          refine g_iconst (pc := 54) dX1_marryNext_54 ?_
          refine g_c_eq (tgt := 62) (pc := 55) dX1_marryNext_55 (by omega) (by decide) (fun c55 => absurd c55 (by omega)) (fun c55 => ?_)
          refine g_iconst (pc := 58) dX1_marryNext_58 ?_
          refine g_goto (tgt := 63) (pc := 59) dX1_marryNext_59 (by decide) ?_
          refine g_zret (pc := 63) rfl dX1_marryNext_63 (by omega) (fun h => h) ?_
          refine dt_i ?_ (congrArg (fun z => setM w a (mem z)) ?_)
          · rw [b2_t (decide_eq_true (show nxt σ ≠ -1 by omega))]
          · rw [if_pos k4, if_pos (show nxt σ ≠ -1 by omega), k6, k7]
set_option maxRecDepth 20000 in
set_option maxHeartbeats 4000000 in
theorem t_X1_doTear {w : List MC} {a : Nat} {σ : SG} {al : Bool} (hw : okM w a) (hi : Inv σ) {p g : Int} (h_p : -2147483648 ≤ p ∧ p < 2147483648) (h_g : -536870912 ≤ g ∧ g < 536870912) : GM M_X1_doTear al [vR a, vI p, vI g] (setM w a (mem σ)) 0 0 (dt (some (vI (ro σ p g))) (setM w a (mem (if ro σ p g = -1 then σ else s_torn σ p g)))) := by
  show G _ none _ _ 0 [some (vR a), some (vI p), some (vI g), none] [] _ _ _ _
  refine g_aload_n (i := 0) (pc := 0) dX1_doTear_0 rfl rfl ?_
  refine g_iload_n (i := 1) (pc := 1) dX1_doTear_1 rfl rfl ?_
  refine g_iload_n (i := 2) (pc := 2) dX1_doTear_2 rfl rfl ?_
  refine g_v2 (pc := 3) okV_X1_runOf rfl l_X1_83 dX1_doTear_3 (m_at0 hw) hc_1 (by decide) (by decide) (Nat.le_of_ble_eq_true rfl) (t_X1_runOf hw hi (by omega) (by omega)) (by simp only [m_len]) ?_
  simp only [Option.toList, List.cons_append, List.nil_append]
  have bb := ro_rng hi (p) (g)
  refine g_istore_n (i := 3) (pc := 6) dX1_doTear_6 rfl (by decide) rfl ?_
  simp only [List.set_cons_succ, List.set_cons_zero]
  refine g_iload_n (i := 3) (pc := 7) dX1_doTear_7 rfl rfl ?_
  refine g_iconst (pc := 8) dX1_doTear_8 ?_
  refine g_c_eq (tgt := 18) (pc := 9) dX1_doTear_9 (by omega) (by decide) (fun c9 => ?_) (fun c9 => ?_)
  · skip
    refine g_iload_n (i := 3) (pc := 18) dX1_doTear_18 rfl rfl ?_
    refine g_iret (pc := 19) rfl dX1_doTear_19 (fun h => h) ?_
    first
    | (rw [if_pos (show ro σ p g = -1 by omega)]; exact dt_i rfl rfl)
    | (rw [if_neg (show ¬ ro σ p g = -1 by omega)]; exact dt_i rfl rfl)
  · skip
    have h_b : big σ p g = true := by
      by_cases q : big σ p g = true
      · exact q
      · exfalso
        have q2 : ro σ p g = -1 := by unfold ro; rw [if_neg q]
        omega
    have h_pg : 0 ≤ p ∧ p < 4 ∧ 0 ≤ g ∧ g < 4 ∧ s_bg σ (4 * p + g).toNat = 1 := of_decide_eq_true h_b
    refine g_aload_n (i := 0) (pc := 12) dX1_doTear_12 rfl rfl ?_
    refine g_iload_n (i := 1) (pc := 13) dX1_doTear_13 rfl rfl ?_
    refine g_iload_n (i := 2) (pc := 14) dX1_doTear_14 rfl rfl ?_
    refine g_v2 (pc := 15) okV_X1_becomeTorn rfl l_X1_131 dX1_doTear_15 (m_at0 hw) hc_1 (by decide) (by decide) (Nat.le_of_ble_eq_true rfl) (t_X1_becomeTorn hw hi (by omega) (by omega)) (by simp only [m_len]) ?_
    simp only [Option.toList, List.cons_append, List.nil_append]
    have hi := inv_torn (p := p) (g := g) hi (by omega) (by omega)
    refine g_iload_n (i := 3) (pc := 18) dX1_doTear_18 rfl rfl ?_
    refine g_iret (pc := 19) rfl dX1_doTear_19 (fun h => h) ?_
    first
    | (rw [if_pos (show ro σ p g = -1 by omega)]; exact dt_i rfl rfl)
    | (rw [if_neg (show ¬ ro σ p g = -1 by omega)]; exact dt_i rfl rfl)
set_option maxRecDepth 20000 in
set_option maxHeartbeats 4000000 in
theorem t_X1_loseFirstPage {w : List MC} {a : Nat} {σ : SG} {al : Bool} (hw : okM w a) (hi : Inv σ) : GM M_X1_loseFirstPage al [vR a] (setM w a (mem σ)) 0 0 (dt (some (vI (b2 (decide (li σ ≠ -1))))) (setM w a (mem (if li σ = -1 then σ else s_los σ)))) := by
  show G _ none _ _ 0 [some (vR a), none, none, none] [] _ _ _ _
  refine g_iconst (pc := 0) dX1_loseFirstPage_0 ?_
  refine g_istore_n (i := 1) (pc := 1) dX1_loseFirstPage_1 rfl (by decide) rfl ?_
  simp only [List.set_cons_succ, List.set_cons_zero]
  refine lp_up (P := fun k => (∀ j : Nat, j < k → ¬ ((fun k : Nat => !(big σ ((k / 16 : Nat) : Int) ((k % 16 / 4 : Nat) : Int)) && decide (uo σ ((k / 16 : Nat) : Int) ((k % 16 : Nat) : Int) = 1) && decide (vo σ ((k / 16 : Nat) : Int) ((k % 16 : Nat) : Int) = 0)) j) = true) → G M_X1_loseFirstPage none al al 2 [some (vR a), some (vI k), none, none] [] (setM w a (mem σ)) 0 0 (dt (some (vI (b2 (decide (li σ ≠ -1))))) (setM w a (mem (if li σ = -1 then σ else s_los σ))))) 64 ?_ ?_ 0 (Nat.zero_le _) (fun i h => absurd h (Nat.not_lt_zero i))
  · intro hH
    have h9 : li σ = -1 := ff_none hH
    show G _ _ _ _ _ _ _ _ _ _ _
    refine g_iload_n (i := 1) (pc := 2) dX1_loseFirstPage_2 rfl rfl ?_
    refine g_bipush (pc := 3) dX1_loseFirstPage_3 (by decide) ?_
    refine g_c_ge (tgt := 73) (pc := 5) dX1_loseFirstPage_5 (by omega) (by decide) (fun c5 => ?_) (fun c5 => absurd c5 (by omega))
    refine g_iconst (pc := 73) dX1_loseFirstPage_73 ?_
    refine g_zret (pc := 74) rfl dX1_loseFirstPage_74 (by omega) (fun h => h) ?_
    refine dt_i ?_ (congrArg (fun z => setM w a (mem z)) ?_)
    · rw [b2_f (fun q => absurd (of_decide_eq_true q) (by omega))]
    · rw [if_pos h9]
  · intro k hk ih hH
    show G _ _ _ _ _ _ _ _ _ _ _
    refine g_iload_n (i := 1) (pc := 2) dX1_loseFirstPage_2 rfl rfl ?_
    refine g_bipush (pc := 3) dX1_loseFirstPage_3 (by decide) ?_
    refine g_c_ge (tgt := 73) (pc := 5) dX1_loseFirstPage_5 (by omega) (by decide) (fun c5 => absurd c5 (by omega)) (fun c5 => ?_)
    refine g_iload_n (i := 1) (pc := 8) dX1_loseFirstPage_8 rfl rfl ?_
    refine g_bipush (pc := 9) dX1_loseFirstPage_9 (by decide) ?_
    refine g_idiv (pc := 11) dX1_loseFirstPage_11 (by omega) (by omega) ?_
    refine G.eqS (congrArg (fun z => vI z) (n_dv k 16)) ?_
    refine g_istore_n (i := 2) (pc := 12) dX1_loseFirstPage_12 rfl (by decide) rfl ?_
    simp only [List.set_cons_succ, List.set_cons_zero]
    refine g_iload_n (i := 1) (pc := 13) dX1_loseFirstPage_13 rfl rfl ?_
    refine g_bipush (pc := 14) dX1_loseFirstPage_14 (by decide) ?_
    refine g_irem (pc := 16) dX1_loseFirstPage_16 (by omega) (by omega) ?_
    refine G.eqS (congrArg (fun z => vI z) (n_md k 16)) ?_
    refine g_istore_n (i := 3) (pc := 17) dX1_loseFirstPage_17 rfl (by decide) rfl ?_
    simp only [List.set_cons_succ, List.set_cons_zero]
    refine g_aload_n (i := 0) (pc := 18) dX1_loseFirstPage_18 rfl rfl ?_
    refine g_iload_n (i := 2) (pc := 19) dX1_loseFirstPage_19 rfl rfl ?_
    refine g_iload_n (i := 3) (pc := 20) dX1_loseFirstPage_20 rfl rfl ?_
    refine g_iconst (pc := 21) dX1_loseFirstPage_21 ?_
    refine g_idiv (pc := 22) dX1_loseFirstPage_22 (by omega) (by omega) ?_
    refine G.eqS (congrArg (fun z => vI z) (n_dv (k % 16) 4)) ?_
    refine g_v2 (pc := 23) okV_X1_isBig rfl l_X1_77 dX1_loseFirstPage_23 (m_at0 hw) hc_1 (by decide) (by decide) (Nat.le_of_ble_eq_true rfl) (t_X1_isBig hw hi (by omega) (by omega)) (by simp only [m_len]) ?_
    simp only [Option.toList, List.cons_append, List.nil_append]
    have bb := b2_rng (big (σ) (((k / 16 : Nat) : Int)) (((k % 16 / 4 : Nat) : Int)))
    refine g_z_ne (tgt := 67) (pc := 26) dX1_loseFirstPage_26 (by omega) (by decide) (fun c26 => ?_) (fun c26 => ?_)
    · skip
      refine g_iinc (pc := 67) dX1_loseFirstPage_67 rfl (by decide) rfl ?_
      simp only [List.set_cons_succ, List.set_cons_zero]
      refine g_goto (tgt := 2) (pc := 70) dX1_loseFirstPage_70 (by decide) ?_
      refine G.drop 3 (G.drop 2 ?_)
      simp only [List.set_cons_succ, List.set_cons_zero]
      refine ih (fun j hj => ?_)
      rcases Nat.lt_or_ge j k with q | q
      · exact hH j q
      · rw [show j = k by omega]
        simp only [Bool.and_eq_true, decide_eq_true_eq]
        rintro ⟨⟨q1, q2⟩, q3⟩
        rw [Bool.not_eq_true', Bool.eq_false_iff] at q1
        have q4 := b2_0.mpr q1
        omega
    · skip
      refine g_aload_n (i := 0) (pc := 29) dX1_loseFirstPage_29 rfl rfl ?_
      refine g_iload_n (i := 2) (pc := 30) dX1_loseFirstPage_30 rfl rfl ?_
      refine g_iload_n (i := 3) (pc := 31) dX1_loseFirstPage_31 rfl rfl ?_
      refine g_v2 (pc := 32) okV_X1_usersOfFrameOf rfl l_X1_169 dX1_loseFirstPage_32 (m_at0 hw) hc_1 (by decide) (by decide) (Nat.le_of_ble_eq_true rfl) (t_X1_usersOfFrameOf hw hi (by omega) (by omega)) (by simp only [m_len]) ?_
      simp only [Option.toList, List.cons_append, List.nil_append]
      have bb := uo_rng (σ) (((k / 16 : Nat) : Int)) (((k % 16 : Nat) : Int))
      refine g_iconst (pc := 35) dX1_loseFirstPage_35 ?_
      refine g_c_ne (tgt := 67) (pc := 36) dX1_loseFirstPage_36 (by omega) (by decide) (fun c36 => ?_) (fun c36 => ?_)
      · skip
        refine g_iinc (pc := 67) dX1_loseFirstPage_67 rfl (by decide) rfl ?_
        simp only [List.set_cons_succ, List.set_cons_zero]
        refine g_goto (tgt := 2) (pc := 70) dX1_loseFirstPage_70 (by decide) ?_
        refine G.drop 3 (G.drop 2 ?_)
        simp only [List.set_cons_succ, List.set_cons_zero]
        refine ih (fun j hj => ?_)
        rcases Nat.lt_or_ge j k with q | q
        · exact hH j q
        · rw [show j = k by omega]
          simp only [Bool.and_eq_true, decide_eq_true_eq]
          rintro ⟨⟨q1, q2⟩, q3⟩
          rw [Bool.not_eq_true', Bool.eq_false_iff] at q1
          have q4 := b2_0.mpr q1
          omega
      · skip
        refine g_aload_n (i := 0) (pc := 39) dX1_loseFirstPage_39 rfl rfl ?_
        refine g_iload_n (i := 2) (pc := 40) dX1_loseFirstPage_40 rfl rfl ?_
        refine g_iload_n (i := 3) (pc := 41) dX1_loseFirstPage_41 rfl rfl ?_
        refine g_v2 (pc := 42) okV_X1_valueOf rfl l_X1_89 dX1_loseFirstPage_42 (m_at0 hw) hc_1 (by decide) (by decide) (Nat.le_of_ble_eq_true rfl) (t_X1_valueOf hw hi (by omega) (by omega)) (by simp only [m_len]) ?_
        simp only [Option.toList, List.cons_append, List.nil_append]
        have bb := vo_rng hi (((k / 16 : Nat) : Int)) (((k % 16 : Nat) : Int))
        refine g_z_ne (tgt := 67) (pc := 45) dX1_loseFirstPage_45 (by omega) (by decide) (fun c45 => ?_) (fun c45 => ?_)
        · skip
          refine g_iinc (pc := 67) dX1_loseFirstPage_67 rfl (by decide) rfl ?_
          simp only [List.set_cons_succ, List.set_cons_zero]
          refine g_goto (tgt := 2) (pc := 70) dX1_loseFirstPage_70 (by decide) ?_
          refine G.drop 3 (G.drop 2 ?_)
          simp only [List.set_cons_succ, List.set_cons_zero]
          refine ih (fun j hj => ?_)
          rcases Nat.lt_or_ge j k with q | q
          · exact hH j q
          · rw [show j = k by omega]
            simp only [Bool.and_eq_true, decide_eq_true_eq]
            rintro ⟨⟨q1, q2⟩, q3⟩
            rw [Bool.not_eq_true', Bool.eq_false_iff] at q1
            have q4 := b2_0.mpr q1
            omega
        · skip
          have h9 : li σ = k := ff_some (p := fun k : Nat => !(big σ ((k / 16 : Nat) : Int) ((k % 16 / 4 : Nat) : Int)) && decide (uo σ ((k / 16 : Nat) : Int) ((k % 16 : Nat) : Int) = 1) && decide (vo σ ((k / 16 : Nat) : Int) ((k % 16 : Nat) : Int) = 0)) (by
            simp only [Bool.and_eq_true, decide_eq_true_eq]
            refine ⟨⟨?_, by omega⟩, by omega⟩
            rw [Bool.not_eq_true', Bool.eq_false_iff]
            exact b2_0.mp (by omega)) hH hk
          refine g_aload_n (i := 0) (pc := 48) dX1_loseFirstPage_48 rfl rfl ?_
          refine g_iload_n (i := 2) (pc := 49) dX1_loseFirstPage_49 rfl rfl ?_
          refine g_iload_n (i := 3) (pc := 50) dX1_loseFirstPage_50 rfl rfl ?_
          refine g_v2 (pc := 51) okV_X1_letGo rfl l_X1_137 dX1_loseFirstPage_51 (m_at0 hw) hc_1 (by decide) (by decide) (Nat.le_of_ble_eq_true rfl) (t_X1_letGo hw hi (by omega) (by omega)) (by simp only [m_len]) ?_
          simp only [Option.toList, List.cons_append, List.nil_append]
          have hi := inv_fr (k := (16 * ((k / 16 : Nat) : Int) + ((k % 16 : Nat) : Int)).toNat) (x := -1) hi (by omega) (by omega) (Or.inl rfl)
          refine g_pop (pc := 54) dX1_loseFirstPage_54 (fun z h => nomatch h) ?_
          refine g_aload_n (i := 0) (pc := 55) dX1_loseFirstPage_55 rfl rfl ?_
          refine g_dup (pc := 56) dX1_loseFirstPage_56 (fun z h => nomatch h) ?_
          refine g_getf (pc := 57) f_X1_44 dX1_loseFirstPage_57 (m_at0 hw) rfl ?_
          refine g_iconst (pc := 60) dX1_loseFirstPage_60 ?_
          refine g_iadd (pc := 61) dX1_loseFirstPage_61 ?_
          refine g_put (pc := 62) ft_X1_44 dX1_loseFirstPage_62 (m_at0 hw) (Nat.le_of_ble_eq_true rfl) (fun _ => rfl) (fun _ => rfl) (fun h => nomatch h) ?_
          refine G.eqw (m_put9 hw) ?_
          refine g_iconst (pc := 65) dX1_loseFirstPage_65 ?_
          refine g_zret (pc := 66) rfl dX1_loseFirstPage_66 (by omega) (fun h => h) ?_
          refine dt_i ?_ (Eq.trans (show _ = setM w a (mem (s_addlo (s_setfr σ (16 * ((k / 16 : Nat) : Int) + ((k % 16 : Nat) : Int)).toNat (-1)) 1)) from rfl) (congrArg (fun z => setM w a (mem z)) ?_))
          · rw [b2_t (decide_eq_true (show li σ ≠ -1 by omega))]
          · rw [if_neg (show ¬ li σ = -1 by omega)]
            unfold s_los
            rw [show (li σ).toNat = (16 * ((k / 16 : Nat) : Int) + ((k % 16 : Nat) : Int)).toNat by omega]
set_option maxRecDepth 20000 in
set_option maxHeartbeats 4000000 in
theorem t_X1_tearEmptiestGroup {w : List MC} {a : Nat} {σ : SG} {al : Bool} (hw : okM w a) (hi : Inv σ) : GM M_X1_tearEmptiestGroup al [vR a] (setM w a (mem σ)) 0 0 (dt (some (vI (b2 (decide ((tb σ 16).1 ≠ -1))))) (setM w a (mem (if (tb σ 16).1 = -1 then σ else s_ter σ)))) := by
  show G _ none _ _ 0 [some (vR a), none, none, none, none, none] [] _ _ _ _
  refine g_iconst (pc := 0) dX1_tearEmptiestGroup_0 ?_
  refine g_istore_n (i := 1) (pc := 1) dX1_tearEmptiestGroup_1 rfl (by decide) rfl ?_
  simp only [List.set_cons_succ, List.set_cons_zero]
  refine g_iconst (pc := 2) dX1_tearEmptiestGroup_2 ?_
  refine g_istore_n (i := 2) (pc := 3) dX1_tearEmptiestGroup_3 rfl (by decide) rfl ?_
  simp only [List.set_cons_succ, List.set_cons_zero]
  refine g_iconst (pc := 4) dX1_tearEmptiestGroup_4 ?_
  refine g_istore_n (i := 3) (pc := 5) dX1_tearEmptiestGroup_5 rfl (by decide) rfl ?_
  simp only [List.set_cons_succ, List.set_cons_zero]
  refine lp_up (P := fun k => G M_X1_tearEmptiestGroup none al al 6 [some (vR a), some (vI (tb σ k).1), some (vI (tb σ k).2), some (vI k), none, none] [] (setM w a (mem σ)) 0 0 (dt (some (vI (b2 (decide ((tb σ 16).1 ≠ -1))))) (setM w a (mem (if (tb σ 16).1 = -1 then σ else s_ter σ))))) 16 ?_ ?_ 0 (Nat.zero_le _)
  · have y9 := tb_rng σ 16
    show G _ _ _ _ _ _ _ _ _ _ _
    refine g_iload_n (i := 3) (pc := 6) dX1_tearEmptiestGroup_6 rfl rfl ?_
    refine g_bipush (pc := 7) dX1_tearEmptiestGroup_7 (by decide) ?_
    refine g_c_ge (tgt := 73) (pc := 9) dX1_tearEmptiestGroup_9 (by omega) (by decide) (fun c9 => ?_) (fun c9 => absurd c9 (by omega))
    refine g_iload_n (i := 1) (pc := 73) dX1_tearEmptiestGroup_73 rfl rfl ?_
    refine g_iconst (pc := 74) dX1_tearEmptiestGroup_74 ?_
    refine g_c_ne (tgt := 80) (pc := 75) dX1_tearEmptiestGroup_75 (by omega) (by decide) (fun c75 => ?_) (fun c75 => ?_)
    · skip
      refine g_aload_n (i := 0) (pc := 80) dX1_tearEmptiestGroup_80 rfl rfl ?_
      refine g_iload_n (i := 1) (pc := 81) dX1_tearEmptiestGroup_81 rfl rfl ?_
      refine g_iconst (pc := 82) dX1_tearEmptiestGroup_82 ?_
      refine g_idiv (pc := 83) dX1_tearEmptiestGroup_83 (by omega) (by omega) ?_
      refine G.eqS (congrArg (fun z => vI z) (Int.tdiv_eq_ediv_of_nonneg (by omega))) ?_
      refine g_iload_n (i := 1) (pc := 84) dX1_tearEmptiestGroup_84 rfl rfl ?_
      refine g_iconst (pc := 85) dX1_tearEmptiestGroup_85 ?_
      refine g_irem (pc := 86) dX1_tearEmptiestGroup_86 (by omega) (by omega) ?_
      refine G.eqS (congrArg (fun z => vI z) (Int.tmod_eq_emod_of_nonneg (by omega))) ?_
      refine g_v2 (pc := 87) okV_X1_becomeTorn rfl l_X1_131 dX1_tearEmptiestGroup_87 (m_at0 hw) hc_1 (by decide) (by decide) (Nat.le_of_ble_eq_true rfl) (t_X1_becomeTorn hw hi (by omega) (by omega)) (by simp only [m_len]) ?_
      simp only [Option.toList, List.cons_append, List.nil_append]
      have hi := inv_torn (p := ((tb σ 16).1 / 4)) (g := ((tb σ 16).1 % 4)) hi (by omega) (by omega)
      refine g_iconst (pc := 90) dX1_tearEmptiestGroup_90 ?_
      refine g_zret (pc := 91) rfl dX1_tearEmptiestGroup_91 (by omega) (fun h => h) ?_
      refine dt_i ?_ (congrArg (fun z => setM w a (mem z)) ?_)
      · rw [b2_t (decide_eq_true (show (tb σ 16).1 ≠ -1 by omega))]
      · rw [if_neg (by omega)]
        rfl
    · skip
      refine g_iconst (pc := 78) dX1_tearEmptiestGroup_78 ?_
      refine g_zret (pc := 79) rfl dX1_tearEmptiestGroup_79 (by omega) (fun h => h) ?_
      refine dt_i ?_ (congrArg (fun z => setM w a (mem z)) ?_)
      · rw [b2_f (fun q => absurd (of_decide_eq_true q) (by omega))]
      · rw [if_pos (by omega)]
  · intro k hk ih
    have y9 := tb_rng σ k
    show G _ _ _ _ _ _ _ _ _ _ _
    refine g_iload_n (i := 3) (pc := 6) dX1_tearEmptiestGroup_6 rfl rfl ?_
    refine g_bipush (pc := 7) dX1_tearEmptiestGroup_7 (by decide) ?_
    refine g_c_ge (tgt := 73) (pc := 9) dX1_tearEmptiestGroup_9 (by omega) (by decide) (fun c9 => absurd c9 (by omega)) (fun c9 => ?_)
    refine g_iload_n (i := 3) (pc := 12) dX1_tearEmptiestGroup_12 rfl rfl ?_
    refine g_iconst (pc := 13) dX1_tearEmptiestGroup_13 ?_
    refine g_idiv (pc := 14) dX1_tearEmptiestGroup_14 (by omega) (by omega) ?_
    refine G.eqS (congrArg (fun z => vI z) (n_dv k 4)) ?_
    refine g_istore (pc := 15) dX1_tearEmptiestGroup_15 (by decide) rfl ?_
    simp only [List.set_cons_succ, List.set_cons_zero]
    refine g_iload_n (i := 3) (pc := 17) dX1_tearEmptiestGroup_17 rfl rfl ?_
    refine g_iconst (pc := 18) dX1_tearEmptiestGroup_18 ?_
    refine g_irem (pc := 19) dX1_tearEmptiestGroup_19 (by omega) (by omega) ?_
    refine G.eqS (congrArg (fun z => vI z) (n_md k 4)) ?_
    refine g_istore (pc := 20) dX1_tearEmptiestGroup_20 (by decide) rfl ?_
    simp only [List.set_cons_succ, List.set_cons_zero]
    refine g_aload_n (i := 0) (pc := 22) dX1_tearEmptiestGroup_22 rfl rfl ?_
    refine g_iload (pc := 23) dX1_tearEmptiestGroup_23 rfl ?_
    refine g_iload (pc := 25) dX1_tearEmptiestGroup_25 rfl ?_
    refine g_v2 (pc := 27) okV_X1_isBig rfl l_X1_77 dX1_tearEmptiestGroup_27 (m_at0 hw) hc_1 (by decide) (by decide) (Nat.le_of_ble_eq_true rfl) (t_X1_isBig hw hi (by omega) (by omega)) (by simp only [m_len]) ?_
    simp only [Option.toList, List.cons_append, List.nil_append]
    have bb := b2_rng (big (σ) (((k / 4 : Nat) : Int)) (((k % 4 : Nat) : Int)))
    refine g_z_eq (tgt := 67) (pc := 30) dX1_tearEmptiestGroup_30 (by omega) (by decide) (fun c30 => ?_) (fun c30 => ?_)
    · skip
      refine g_iinc (pc := 67) dX1_tearEmptiestGroup_67 rfl (by decide) rfl ?_
      simp only [List.set_cons_succ, List.set_cons_zero]
      refine g_goto (tgt := 6) (pc := 70) dX1_tearEmptiestGroup_70 (by decide) ?_
      refine G.drop 5 (G.drop 4 ?_)
      simp only [List.set_cons_succ, List.set_cons_zero]
      refine G.eqL ?_ ih
      have e9 : tb σ (k + 1) = tb σ k := by
        rw [tb, if_neg]
        rintro ⟨q1, q2, q3⟩
        have q4 := b2_1.mpr q1
        omega
      rw [e9]
      rfl
    · skip
      refine g_aload_n (i := 0) (pc := 33) dX1_tearEmptiestGroup_33 rfl rfl ?_
      refine g_iload (pc := 34) dX1_tearEmptiestGroup_34 rfl ?_
      refine g_iload (pc := 36) dX1_tearEmptiestGroup_36 rfl ?_
      refine g_v2 (pc := 38) okV_X1_pagesWithSharedFrame rfl l_X1_80 dX1_tearEmptiestGroup_38 (m_at0 hw) hc_1 (by decide) (by decide) (Nat.le_of_ble_eq_true rfl) (t_X1_pagesWithSharedFrame hw hi (by omega) (by omega)) (by simp only [m_len]) ?_
      simp only [Option.toList, List.cons_append, List.nil_append]
      have bb := ps_rng (σ) (((k / 4 : Nat) : Int)) (((k % 4 : Nat) : Int))
      refine g_z_ne (tgt := 67) (pc := 41) dX1_tearEmptiestGroup_41 (by omega) (by decide) (fun c41 => ?_) (fun c41 => ?_)
      · skip
        refine g_iinc (pc := 67) dX1_tearEmptiestGroup_67 rfl (by decide) rfl ?_
        simp only [List.set_cons_succ, List.set_cons_zero]
        refine g_goto (tgt := 6) (pc := 70) dX1_tearEmptiestGroup_70 (by decide) ?_
        refine G.drop 5 (G.drop 4 ?_)
        simp only [List.set_cons_succ, List.set_cons_zero]
        refine G.eqL ?_ ih
        have e9 : tb σ (k + 1) = tb σ k := by
          rw [tb, if_neg]
          rintro ⟨q1, q2, q3⟩
          have q4 := b2_1.mpr q1
          omega
        rw [e9]
        rfl
      · skip
        refine g_aload_n (i := 0) (pc := 44) dX1_tearEmptiestGroup_44 rfl rfl ?_
        refine g_iload (pc := 45) dX1_tearEmptiestGroup_45 rfl ?_
        refine g_iload (pc := 47) dX1_tearEmptiestGroup_47 rfl ?_
        refine g_v2 (pc := 49) okV_X1_pagesWithValueZero rfl l_X1_172 dX1_tearEmptiestGroup_49 (m_at0 hw) hc_1 (by decide) (by decide) (Nat.le_of_ble_eq_true rfl) (t_X1_pagesWithValueZero hw hi (by omega) (by omega)) (by simp only [m_len]) ?_
        simp only [Option.toList, List.cons_append, List.nil_append]
        have bb := pz_rng (σ) (((k / 4 : Nat) : Int)) (((k % 4 : Nat) : Int))
        refine g_iload_n (i := 2) (pc := 52) dX1_tearEmptiestGroup_52 rfl rfl ?_
        refine g_c_le (tgt := 67) (pc := 53) dX1_tearEmptiestGroup_53 (by omega) (by decide) (fun c53 => ?_) (fun c53 => ?_)
        · skip
          refine g_iinc (pc := 67) dX1_tearEmptiestGroup_67 rfl (by decide) rfl ?_
          simp only [List.set_cons_succ, List.set_cons_zero]
          refine g_goto (tgt := 6) (pc := 70) dX1_tearEmptiestGroup_70 (by decide) ?_
          refine G.drop 5 (G.drop 4 ?_)
          simp only [List.set_cons_succ, List.set_cons_zero]
          refine G.eqL ?_ ih
          have e9 : tb σ (k + 1) = tb σ k := by
            rw [tb, if_neg]
            rintro ⟨q1, q2, q3⟩
            have q4 := b2_1.mpr q1
            omega
          rw [e9]
          rfl
        · skip
          refine g_aload_n (i := 0) (pc := 56) dX1_tearEmptiestGroup_56 rfl rfl ?_
          refine g_iload (pc := 57) dX1_tearEmptiestGroup_57 rfl ?_
          refine g_iload (pc := 59) dX1_tearEmptiestGroup_59 rfl ?_
          refine g_v2 (pc := 61) okV_X1_pagesWithValueZero rfl l_X1_172 dX1_tearEmptiestGroup_61 (m_at0 hw) hc_1 (by decide) (by decide) (Nat.le_of_ble_eq_true rfl) (t_X1_pagesWithValueZero hw hi (by omega) (by omega)) (by simp only [m_len]) ?_
          simp only [Option.toList, List.cons_append, List.nil_append]
          have bb := pz_rng (σ) (((k / 4 : Nat) : Int)) (((k % 4 : Nat) : Int))
          refine g_istore_n (i := 2) (pc := 64) dX1_tearEmptiestGroup_64 rfl (by decide) rfl ?_
          simp only [List.set_cons_succ, List.set_cons_zero]
          refine g_iload_n (i := 3) (pc := 65) dX1_tearEmptiestGroup_65 rfl rfl ?_
          refine g_istore_n (i := 1) (pc := 66) dX1_tearEmptiestGroup_66 rfl (by decide) rfl ?_
          simp only [List.set_cons_succ, List.set_cons_zero]
          refine g_iinc (pc := 67) dX1_tearEmptiestGroup_67 rfl (by decide) rfl ?_
          simp only [List.set_cons_succ, List.set_cons_zero]
          refine g_goto (tgt := 6) (pc := 70) dX1_tearEmptiestGroup_70 (by decide) ?_
          refine G.drop 5 (G.drop 4 ?_)
          simp only [List.set_cons_succ, List.set_cons_zero]
          refine G.eqL ?_ ih
          have e9 : tb σ (k + 1) = ((k : Int), pz σ ((k / 4 : Nat) : Int) ((k % 4 : Nat) : Int)) := by
            rw [tb, if_pos ⟨b2_1.mp (by omega), by omega, by omega⟩]
          rw [e9]
          rfl
set_option maxRecDepth 20000 in
set_option maxHeartbeats 4000000 in
theorem t_X1_doPress {w : List MC} {a : Nat} {σ : SG} {al : Bool} (hw : okM w a) (hi : Inv σ) {n : Int} (h_n : -2147483648 ≤ n ∧ n < 2147483648) : GM M_X1_doPress al [vR a, vI n] (setM w a (mem σ)) 0 0 (dt (some (vI (if 1 ≤ n ∧ n ≤ 32 then nff (s_pre σ n) else -1))) (setM w a (mem (if 1 ≤ n ∧ n ≤ 32 then s_pre σ n else σ)))) := by
  show G _ none _ _ 0 [some (vR a), some (vI n), none, none] [] _ _ _ _
  refine g_iload_n (i := 1) (pc := 0) dX1_doPress_0 rfl rfl ?_
  refine g_iconst (pc := 1) dX1_doPress_1 ?_
  refine g_c_lt (tgt := 11) (pc := 2) dX1_doPress_2 (by omega) (by decide) (fun c2 => ?_) (fun c2 => ?_)
  · skip
    refine g_iconst (pc := 11) dX1_doPress_11 ?_
    refine g_iret (pc := 12) rfl dX1_doPress_12 (fun h => h) ?_
    rw [if_neg (by omega), if_neg (by omega)]
    exact dt_i rfl rfl
  · skip
    refine g_iload_n (i := 1) (pc := 5) dX1_doPress_5 rfl rfl ?_
    refine g_bipush (pc := 6) dX1_doPress_6 (by decide) ?_
    refine g_c_le (tgt := 13) (pc := 8) dX1_doPress_8 (by omega) (by decide) (fun c8 => ?_) (fun c8 => ?_)
    · skip
      rw [if_pos (show 1 ≤ n ∧ n ≤ 32 by omega), if_pos (show 1 ≤ n ∧ n ≤ 32 by omega)]
      refine g_bipush (pc := 13) dX1_doPress_13 (by decide) ?_
      refine g_istore_n (i := 2) (pc := 15) dX1_doPress_15 rfl (by decide) rfl ?_
      simp only [List.set_cons_succ, List.set_cons_zero]
      refine g_iconst (pc := 16) dX1_doPress_16 ?_
      refine g_istore_n (i := 3) (pc := 17) dX1_doPress_17 rfl (by decide) rfl ?_
      simp only [List.set_cons_succ, List.set_cons_zero]
      refine lp_up (P := fun k => G M_X1_doPress none al al 18 [some (vR a), some (vI n), some (vI 80), some (vI k)] [] (setM w a (mem (itp σ n k))) 0 0 (dt (some (vI (nff (s_pre σ n)))) (setM w a (mem (s_pre σ n))))) 80 ?_ ?_ 0 (Nat.zero_le _)
      · have hi := inv_itp hi n 80
        show G _ _ _ _ _ _ _ (setM w a (mem (s_pre σ n))) _ _ _
        refine g_iload_n (i := 3) (pc := 18) dX1_doPress_18 rfl rfl ?_
        refine g_iload_n (i := 2) (pc := 19) dX1_doPress_19 rfl rfl ?_
        refine g_c_ge (tgt := 54) (pc := 20) dX1_doPress_20 (by omega) (by decide) (fun c20 => ?_) (fun c20 => absurd c20 (by omega))
        refine g_aload_n (i := 0) (pc := 54) dX1_doPress_54 rfl rfl ?_
        refine g_v0 (pc := 55) okV_X1_freeFrames rfl l_X1_99 dX1_doPress_55 (m_at0 hw) hc_1 (by decide) (by decide) (Nat.le_of_ble_eq_true rfl) (t_X1_freeFrames hw hi) (by simp only [m_len]) ?_
        simp only [Option.toList, List.cons_append, List.nil_append]
        have bb := nff_rng (s_pre σ n)
        refine g_iret (pc := 58) rfl dX1_doPress_58 (fun h => h) ?_
        exact dt_i rfl rfl
      · intro k hk ih
        have hi1 := hi
        have hi := inv_itp hi n k
        show G _ _ _ _ _ _ _ _ _ _ _
        refine g_iload_n (i := 3) (pc := 18) dX1_doPress_18 rfl rfl ?_
        refine g_iload_n (i := 2) (pc := 19) dX1_doPress_19 rfl rfl ?_
        refine g_c_ge (tgt := 54) (pc := 20) dX1_doPress_20 (by omega) (by decide) (fun c20 => absurd c20 (by omega)) (fun c20 => ?_)
        refine g_aload_n (i := 0) (pc := 23) dX1_doPress_23 rfl rfl ?_
        refine g_v0 (pc := 24) okV_X1_freeFrames rfl l_X1_99 dX1_doPress_24 (m_at0 hw) hc_1 (by decide) (by decide) (Nat.le_of_ble_eq_true rfl) (t_X1_freeFrames hw hi) (by simp only [m_len]) ?_
        simp only [Option.toList, List.cons_append, List.nil_append]
        have bb := nff_rng (itp σ n k)
        refine g_iload_n (i := 1) (pc := 27) dX1_doPress_27 rfl rfl ?_
        refine g_c_ge (tgt := 54) (pc := 28) dX1_doPress_28 (by omega) (by decide) (fun c28 => ?_) (fun c28 => ?_)
        · skip
          have e9 : s_pre σ n = itp σ n k := by
            have e8 := itp_fix (σ := σ) (n := n) (k := k) (by
              unfold pst
              rw [if_pos (by omega)]) (80 - k)
            rw [show k + (80 - k) = 80 by omega] at e8
            exact e8
          refine G.eqw (congrArg (fun z => setM w a (mem z)) e9.symm) ?_
          have hi := inv_itp hi1 n 80
          refine g_aload_n (i := 0) (pc := 54) dX1_doPress_54 rfl rfl ?_
          refine g_v0 (pc := 55) okV_X1_freeFrames rfl l_X1_99 dX1_doPress_55 (m_at0 hw) hc_1 (by decide) (by decide) (Nat.le_of_ble_eq_true rfl) (t_X1_freeFrames hw hi) (by simp only [m_len]) ?_
          simp only [Option.toList, List.cons_append, List.nil_append]
          have bb := nff_rng (s_pre σ n)
          refine g_iret (pc := 58) rfl dX1_doPress_58 (fun h => h) ?_
          exact dt_i rfl rfl
        · skip
          refine g_aload_n (i := 0) (pc := 31) dX1_doPress_31 rfl rfl ?_
          refine g_v0 (pc := 32) okV_X1_loseFirstPage rfl l_X1_162 dX1_doPress_32 (m_at0 hw) hc_1 (by decide) (by decide) (Nat.le_of_ble_eq_true rfl) (t_X1_loseFirstPage hw hi) (by simp only [m_len]) ?_
          simp only [Option.toList, List.cons_append, List.nil_append]
          have bb := b2_rng (decide (li (itp σ n k) ≠ -1))
          refine g_z_ne (tgt := 48) (pc := 35) dX1_doPress_35 (by omega) (by decide) (fun c35 => ?_) (fun c35 => ?_)
          · skip
            have q1 : li (itp σ n k) ≠ -1 := by
              intro q
              have q2 := b2_0.mpr (fun q3 => absurd (of_decide_eq_true q3) (show ¬ li (itp σ n k) ≠ -1 by omega))
              omega
            refine g_iinc (pc := 48) dX1_doPress_48 rfl (by decide) rfl ?_
            simp only [List.set_cons_succ, List.set_cons_zero]
            refine g_goto (tgt := 18) (pc := 51) dX1_doPress_51 (by decide) ?_
            refine G.eqw (congrArg (fun z => setM w a (mem z)) ?_) ih
            show _ = pst (itp σ n k) n
            unfold pst
            rw [if_neg q1, if_neg (show ¬ n ≤ nff (itp σ n k) by omega), if_pos q1]
          · skip
            have q1 : li (itp σ n k) = -1 := by
              by_cases q : li (itp σ n k) = -1
              · exact q
              · have q2 := b2_t (decide_eq_true (show li (itp σ n k) ≠ -1 by omega))
                omega
            refine G.eqw (congrArg (fun z => setM w a (mem z)) (if_pos q1)) ?_
            refine g_aload_n (i := 0) (pc := 38) dX1_doPress_38 rfl rfl ?_
            refine g_v0 (pc := 39) okV_X1_tearEmptiestGroup rfl l_X1_166 dX1_doPress_39 (m_at0 hw) hc_1 (by decide) (by decide) (Nat.le_of_ble_eq_true rfl) (t_X1_tearEmptiestGroup hw hi) (by simp only [m_len]) ?_
            simp only [Option.toList, List.cons_append, List.nil_append]
            have bb := b2_rng (decide ((tb (itp σ n k) 16).1 ≠ -1))
            refine g_z_ne (tgt := 48) (pc := 42) dX1_doPress_42 (by omega) (by decide) (fun c42 => ?_) (fun c42 => ?_)
            · skip
              have q0 : (tb (itp σ n k) 16).1 ≠ -1 := by
                intro q
                have q2 := b2_0.mpr (fun q3 => absurd (of_decide_eq_true q3) (show ¬ (tb (itp σ n k) 16).1 ≠ -1 by omega))
                omega
              refine g_iinc (pc := 48) dX1_doPress_48 rfl (by decide) rfl ?_
              simp only [List.set_cons_succ, List.set_cons_zero]
              refine g_goto (tgt := 18) (pc := 51) dX1_doPress_51 (by decide) ?_
              refine G.eqw (congrArg (fun z => setM w a (mem z)) ?_) ih
              show _ = pst (itp σ n k) n
              unfold pst
              rw [if_neg q0, if_neg (show ¬ n ≤ nff (itp σ n k) by omega), if_neg (show ¬ li (itp σ n k) ≠ -1 by omega), if_pos q0]
            · skip
              have q0 : (tb (itp σ n k) 16).1 = -1 := by
                by_cases q : (tb (itp σ n k) 16).1 = -1
                · exact q
                · have q2 := b2_t (decide_eq_true (show (tb (itp σ n k) 16).1 ≠ -1 by omega))
                  omega
              have e9 : s_pre σ n = itp σ n k := by
                have e8 := itp_fix (σ := σ) (n := n) (k := k) (by
                  unfold pst
                  rw [if_neg (by omega), if_neg (by omega), if_neg (by omega)]) (80 - k)
                rw [show k + (80 - k) = 80 by omega] at e8
                exact e8
              refine G.eqw (congrArg (fun z => setM w a (mem z)) ((if_pos q0).trans e9.symm)) ?_
              have hi := inv_itp hi1 n 80
              refine g_goto (tgt := 54) (pc := 45) dX1_doPress_45 (by decide) ?_
              refine g_aload_n (i := 0) (pc := 54) dX1_doPress_54 rfl rfl ?_
              refine g_v0 (pc := 55) okV_X1_freeFrames rfl l_X1_99 dX1_doPress_55 (m_at0 hw) hc_1 (by decide) (by decide) (Nat.le_of_ble_eq_true rfl) (t_X1_freeFrames hw hi) (by simp only [m_len]) ?_
              simp only [Option.toList, List.cons_append, List.nil_append]
              have bb := nff_rng (s_pre σ n)
              refine g_iret (pc := 58) rfl dX1_doPress_58 (fun h => h) ?_
              exact dt_i rfl rfl
    · skip
      refine g_iconst (pc := 11) dX1_doPress_11 ?_
      refine g_iret (pc := 12) rfl dX1_doPress_12 (fun h => h) ?_
      rw [if_neg (by omega), if_neg (by omega)]
      exact dt_i rfl rfl
