/-! MEMORY, writing (printed by wip/whole/mem3.py) -/
set_option maxRecDepth 20000 in
set_option maxHeartbeats 4000000 in
theorem t_X1_takeFrame {w : List MC} {a : Nat} {σ : SG} {al : Bool} (hw : okM w a) {p v : Int} (h_p : 0 ≤ p ∧ p < 4) (h_v : 0 ≤ v ∧ v < 16) {f : Int} (h_f : 0 ≤ f ∧ f < 32) (h_0 : s_fr σ (16 * p + v).toNat = -1) : GM M_X1_takeFrame al [vR a, vI p, vI v, vI f] (setM w a (mem σ)) 0 0 (dt none (setM w a (mem (s_setfr σ (16 * p + v).toNat f)))) := by
  show G _ none _ _ 0 [some (vR a), some (vI p), some (vI v), some (vI f)] [] _ _ _ _
  refine g_aload_n (i := 0) (pc := 0) dX1_takeFrame_0 rfl rfl ?_
  refine g_getf (pc := 1) f_X1_9 dX1_takeFrame_1 (m_at0 hw) rfl ?_
  refine g_bipush (pc := 4) dX1_takeFrame_4 (by decide) ?_
  refine g_iload_n (i := 1) (pc := 6) dX1_takeFrame_6 rfl rfl ?_
  refine g_imul (pc := 7) dX1_takeFrame_7 ?_
  refine g_iload_n (i := 2) (pc := 8) dX1_takeFrame_8 rfl rfl ?_
  refine g_iadd (pc := 9) dX1_takeFrame_9 ?_
  refine g_iload_n (i := 3) (pc := 10) dX1_takeFrame_10 rfl rfl ?_
  refine g_iast (pc := 11) dX1_takeFrame_11 (m_at1 hw) (by omega) ?_
  refine G.eqw (m_set1 hw) ?_
  refine g_aload_n (i := 0) (pc := 12) dX1_takeFrame_12 rfl rfl ?_
  refine g_getf (pc := 13) f_X1_15 dX1_takeFrame_13 (m_at0 hw) rfl ?_
  refine g_iload_n (i := 3) (pc := 16) dX1_takeFrame_16 rfl rfl ?_
  refine g_dup2 (pc := 17) dX1_takeFrame_17 (fun z h => nomatch h) (fun z h => nomatch h) ?_
  refine g_iald (pc := 18) dX1_takeFrame_18 (m_at2 hw) (by omega) ?_
  refine g_iconst (pc := 19) dX1_takeFrame_19 ?_
  refine g_iadd (pc := 20) dX1_takeFrame_20 ?_
  refine g_iast (pc := 21) dX1_takeFrame_21 (m_at2 hw) (by omega) ?_
  refine G.eqw (m_set2 hw) ?_
  refine g_vret (pc := 22) rfl dX1_takeFrame_22 (fun h => h) ?_
  refine dt_v (congrArg (setM w a) (mem_fr (Eq.trans ?_ (uses_take (by omega) h_0 (by omega)))))
  show va_up (fun g : Nat => uses (s_fr σ) g) f.toNat (uses (s_fr σ) (f.toNat : Nat) + 1) = _
  rw [Int.toNat_of_nonneg (by omega)]
set_option maxRecDepth 20000 in
set_option maxHeartbeats 4000000 in
theorem t_X1_letGo {w : List MC} {a : Nat} {σ : SG} {al : Bool} (hw : okM w a) (hi : Inv σ) {p v : Int} (h_p : 0 ≤ p ∧ p < 4) (h_v : 0 ≤ v ∧ v < 16) : GM M_X1_letGo al [vR a, vI p, vI v] (setM w a (mem σ)) 0 0 (dt (some (vI (lg σ p v))) (setM w a (mem (s_setfr σ (16 * p + v).toNat (-1))))) := by
  show G _ none _ _ 0 [some (vR a), some (vI p), some (vI v), none] [] _ _ _ _
  refine g_aload_n (i := 0) (pc := 0) dX1_letGo_0 rfl rfl ?_
  refine g_iload_n (i := 1) (pc := 1) dX1_letGo_1 rfl rfl ?_
  refine g_iload_n (i := 2) (pc := 2) dX1_letGo_2 rfl rfl ?_
  refine g_v2 (pc := 3) okV_X1_frameOf rfl l_X1_73 dX1_letGo_3 (m_at0 hw) hc_1 (by decide) (by decide) (Nat.le_of_ble_eq_true rfl) (t_X1_frameOf hw hi (by omega) (by omega)) (by simp only [m_len]) ?_
  simp only [Option.toList, List.cons_append, List.nil_append]
  have bb := fo_rng hi (p) (v)
  refine g_istore_n (i := 3) (pc := 6) dX1_letGo_6 rfl (by decide) rfl ?_
  simp only [List.set_cons_succ, List.set_cons_zero]
  refine g_iload_n (i := 3) (pc := 7) dX1_letGo_7 rfl rfl ?_
  refine g_iconst (pc := 8) dX1_letGo_8 ?_
  refine g_c_ne (tgt := 14) (pc := 9) dX1_letGo_9 (by omega) (by decide) (fun c9 => ?_) (fun c9 => ?_)
  · skip
    have e0 := fo_in (σ := σ) h_p h_v
    have x9 := uses_rng (s_fr σ) (fo σ p v)
    have y9 := uses_pos (fr := s_fr σ) (k := (16 * p + v).toNat) (g := fo σ p v) (by omega) e0.symm
    refine g_aload_n (i := 0) (pc := 14) dX1_letGo_14 rfl rfl ?_
    refine g_getf (pc := 15) f_X1_9 dX1_letGo_15 (m_at0 hw) rfl ?_
    refine g_bipush (pc := 18) dX1_letGo_18 (by decide) ?_
    refine g_iload_n (i := 1) (pc := 20) dX1_letGo_20 rfl rfl ?_
    refine g_imul (pc := 21) dX1_letGo_21 ?_
    refine g_iload_n (i := 2) (pc := 22) dX1_letGo_22 rfl rfl ?_
    refine g_iadd (pc := 23) dX1_letGo_23 ?_
    refine g_iconst (pc := 24) dX1_letGo_24 ?_
    refine g_iast (pc := 25) dX1_letGo_25 (m_at1 hw) (by omega) ?_
    refine G.eqw (m_set1 hw) ?_
    refine g_aload_n (i := 0) (pc := 26) dX1_letGo_26 rfl rfl ?_
    refine g_getf (pc := 27) f_X1_15 dX1_letGo_27 (m_at0 hw) rfl ?_
    refine g_iload_n (i := 3) (pc := 30) dX1_letGo_30 rfl rfl ?_
    refine g_dup2 (pc := 31) dX1_letGo_31 (fun z h => nomatch h) (fun z h => nomatch h) ?_
    refine g_iald (pc := 32) dX1_letGo_32 (m_at2 hw) (by omega) ?_
    refine g_iconst (pc := 33) dX1_letGo_33 ?_
    refine g_isub (pc := 34) dX1_letGo_34 ?_
    refine g_iast (pc := 35) dX1_letGo_35 (m_at2 hw) (by omega) ?_
    refine G.eqw (m_set2 hw) ?_
    refine g_aload_n (i := 0) (pc := 36) dX1_letGo_36 rfl rfl ?_
    refine g_getf (pc := 37) f_X1_15 dX1_letGo_37 (m_at0 hw) rfl ?_
    refine g_iload_n (i := 3) (pc := 40) dX1_letGo_40 rfl rfl ?_
    refine g_iald (pc := 41) dX1_letGo_41 (m_at2 hw) (by omega) ?_
    have e9 : va_up (mem σ).2.1 (fo σ p v).toNat ((mem σ).2.1 (fo σ p v).toNat - 1) (fo σ p v).toNat = uses (s_fr σ) (fo σ p v) - 1 := by
      rw [up_s]
      show uses (s_fr σ) ((fo σ p v).toNat : Nat) - 1 = _
      rw [Int.toNat_of_nonneg (by omega)]
    refine G.eqS (congrArg (fun z => vI z) e9) ?_
    refine g_z_ne (tgt := 49) (pc := 42) dX1_letGo_42 (by omega) (by decide) (fun c42 => ?_) (fun c42 => ?_)
    · skip
      refine g_iconst (pc := 49) dX1_letGo_49 ?_
      refine g_iret (pc := 50) rfl dX1_letGo_50 (fun h => h) ?_
      refine dt_i ?_ (congrArg (setM w a) (mem_fr ?_))
      · unfold lg
        rw [if_neg (by omega)]
        first
        | (rw [if_pos (by omega)]; done)
        | rw [if_neg (by omega)]
      · have h7 := uses_let (fr := s_fr σ) (k := (16 * p + v).toNat) (by omega) (by omega)
        rw [← e0] at h7
        refine Eq.trans ?_ h7
        show va_up (fun g : Nat => uses (s_fr σ) g) (fo σ p v).toNat (uses (s_fr σ) ((fo σ p v).toNat : Nat) - 1) = _
        rw [Int.toNat_of_nonneg (by omega)]
    · skip
      refine g_iconst (pc := 45) dX1_letGo_45 ?_
      refine g_goto (tgt := 50) (pc := 46) dX1_letGo_46 (by decide) ?_
      refine g_iret (pc := 50) rfl dX1_letGo_50 (fun h => h) ?_
      refine dt_i ?_ (congrArg (setM w a) (mem_fr ?_))
      · unfold lg
        rw [if_neg (by omega)]
        first
        | (rw [if_pos (by omega)]; done)
        | rw [if_neg (by omega)]
      · have h7 := uses_let (fr := s_fr σ) (k := (16 * p + v).toNat) (by omega) (by omega)
        rw [← e0] at h7
        refine Eq.trans ?_ h7
        show va_up (fun g : Nat => uses (s_fr σ) g) (fo σ p v).toNat (uses (s_fr σ) ((fo σ p v).toNat : Nat) - 1) = _
        rw [Int.toNat_of_nonneg (by omega)]
  · skip
    refine g_iconst (pc := 12) dX1_letGo_12 ?_
    refine g_iret (pc := 13) rfl dX1_letGo_13 (fun h => h) ?_
    have e0 := fo_in (σ := σ) h_p h_v
    refine dt_i ?_ (congrArg (fun z => setM w a (mem z)) ?_)
    · unfold lg; rw [if_pos (by omega)]
    · unfold s_setfr; rw [up_id (by omega)]
set_option maxRecDepth 20000 in
set_option maxHeartbeats 4000000 in
theorem t_X1_becomeBig {w : List MC} {a : Nat} {σ : SG} {al : Bool} (hw : okM w a) (hi : Inv σ) {p g : Int} (h_p : 0 ≤ p ∧ p < 4) (h_g : 0 ≤ g ∧ g < 4) : GM M_X1_becomeBig al [vR a, vI p, vI g] (setM w a (mem σ)) 0 0 (dt none (setM w a (mem (s_setbg σ (4 * p + g).toNat 1)))) := by
  show G _ none _ _ 0 [some (vR a), some (vI p), some (vI g)] [] _ _ _ _
  refine g_aload_n (i := 0) (pc := 0) dX1_becomeBig_0 rfl rfl ?_
  refine g_dup (pc := 1) dX1_becomeBig_1 (fun z h => nomatch h) ?_
  refine g_getf (pc := 2) f_X1_28 dX1_becomeBig_2 (m_at0 hw) rfl ?_
  refine g_iconst (pc := 5) dX1_becomeBig_5 ?_
  refine g_iconst (pc := 6) dX1_becomeBig_6 ?_
  refine g_iload_n (i := 1) (pc := 7) dX1_becomeBig_7 rfl rfl ?_
  refine g_imul (pc := 8) dX1_becomeBig_8 ?_
  refine g_iload_n (i := 2) (pc := 9) dX1_becomeBig_9 rfl rfl ?_
  refine g_iadd (pc := 10) dX1_becomeBig_10 ?_
  refine g_ishl (pc := 11) dX1_becomeBig_11 ?_
  refine g_ior (pc := 12) dX1_becomeBig_12 ?_
  refine g_put (pc := 13) ft_X1_28 dX1_becomeBig_13 (m_at0 hw) (Nat.le_of_ble_eq_true rfl) (fun _ => rfl) (fun _ => rfl) (fun h => nomatch h) ?_
  refine G.eqw (m_put4 hw) ?_
  refine g_vret (pc := 16) rfl dX1_becomeBig_16 (fun h => h) ?_
  refine dt_v (congrArg (setM w a) (mem_bg ?_))
  obtain ⟨n, hn⟩ := Int.eq_ofNat_of_zero_le (show 0 ≤ 4 * p + g by omega)
  rw [hn]
  exact z_set hi.2.2.1 (by decide) (by omega)
set_option maxRecDepth 20000 in
set_option maxHeartbeats 4000000 in
theorem t_X1_becomeSmall {w : List MC} {a : Nat} {σ : SG} {al : Bool} (hw : okM w a) (hi : Inv σ) {p g : Int} (h_p : 0 ≤ p ∧ p < 4) (h_g : 0 ≤ g ∧ g < 4) : GM M_X1_becomeSmall al [vR a, vI p, vI g] (setM w a (mem σ)) 0 0 (dt none (setM w a (mem (s_setbg σ (4 * p + g).toNat 0)))) := by
  show G _ none _ _ 0 [some (vR a), some (vI p), some (vI g)] [] _ _ _ _
  refine g_aload_n (i := 0) (pc := 0) dX1_becomeSmall_0 rfl rfl ?_
  refine g_dup (pc := 1) dX1_becomeSmall_1 (fun z h => nomatch h) ?_
  refine g_getf (pc := 2) f_X1_28 dX1_becomeSmall_2 (m_at0 hw) rfl ?_
  refine g_iconst (pc := 5) dX1_becomeSmall_5 ?_
  refine g_iconst (pc := 6) dX1_becomeSmall_6 ?_
  refine g_iload_n (i := 1) (pc := 7) dX1_becomeSmall_7 rfl rfl ?_
  refine g_imul (pc := 8) dX1_becomeSmall_8 ?_
  refine g_iload_n (i := 2) (pc := 9) dX1_becomeSmall_9 rfl rfl ?_
  refine g_iadd (pc := 10) dX1_becomeSmall_10 ?_
  refine g_ishl (pc := 11) dX1_becomeSmall_11 ?_
  refine g_iconst (pc := 12) dX1_becomeSmall_12 ?_
  refine g_ixor (pc := 13) dX1_becomeSmall_13 ?_
  refine g_iand (pc := 14) dX1_becomeSmall_14 ?_
  refine g_put (pc := 15) ft_X1_28 dX1_becomeSmall_15 (m_at0 hw) (Nat.le_of_ble_eq_true rfl) (fun _ => rfl) (fun _ => rfl) (fun h => nomatch h) ?_
  refine G.eqw (m_put4 hw) ?_
  refine g_vret (pc := 18) rfl dX1_becomeSmall_18 (fun h => h) ?_
  refine dt_v (congrArg (setM w a) (mem_bg ?_))
  obtain ⟨n, hn⟩ := Int.eq_ofNat_of_zero_le (show 0 ≤ 4 * p + g by omega)
  rw [hn]
  exact z_clr hi.2.2.1 (by decide) (by omega)
set_option maxRecDepth 20000 in
set_option maxHeartbeats 4000000 in
theorem t_X1_becomeTorn {w : List MC} {a : Nat} {σ : SG} {al : Bool} (hw : okM w a) (hi : Inv σ) {p g : Int} (h_p : 0 ≤ p ∧ p < 4) (h_g : 0 ≤ g ∧ g < 4) : GM M_X1_becomeTorn al [vR a, vI p, vI g] (setM w a (mem σ)) 0 0 (dt none (setM w a (mem (s_torn σ p g)))) := by
  show G _ none _ _ 0 [some (vR a), some (vI p), some (vI g)] [] _ _ _ _
  refine g_aload_n (i := 0) (pc := 0) dX1_becomeTorn_0 rfl rfl ?_
  refine g_iload_n (i := 1) (pc := 1) dX1_becomeTorn_1 rfl rfl ?_
  refine g_iload_n (i := 2) (pc := 2) dX1_becomeTorn_2 rfl rfl ?_
  refine g_v2 (pc := 3) okV_X1_becomeSmall rfl l_X1_92 dX1_becomeTorn_3 (m_at0 hw) hc_1 (by decide) (by decide) (Nat.le_of_ble_eq_true rfl) (t_X1_becomeSmall hw hi (by omega) (by omega)) (by simp only [m_len]) ?_
  simp only [Option.toList, List.cons_append, List.nil_append]
  have hi := inv_bg (k := (4 * p + g).toNat) (x := 0) hi (by omega) (Or.inl rfl) (Or.inl rfl)
  refine g_aload_n (i := 0) (pc := 6) dX1_becomeTorn_6 rfl rfl ?_
  refine g_dup (pc := 7) dX1_becomeTorn_7 (fun z h => nomatch h) ?_
  refine g_getf (pc := 8) f_X1_41 dX1_becomeTorn_8 (m_at0 hw) rfl ?_
  refine g_iconst (pc := 11) dX1_becomeTorn_11 ?_
  refine g_iadd (pc := 12) dX1_becomeTorn_12 ?_
  refine g_put (pc := 13) ft_X1_41 dX1_becomeTorn_13 (m_at0 hw) (Nat.le_of_ble_eq_true rfl) (fun _ => rfl) (fun _ => rfl) (fun h => nomatch h) ?_
  refine G.eqw (m_put8 hw) ?_
  refine g_vret (pc := 16) rfl dX1_becomeTorn_16 (fun h => h) ?_
  exact dt_v rfl
set_option maxRecDepth 20000 in
set_option maxHeartbeats 4000000 in
theorem t_X1_takeSingleFrame {w : List MC} {a : Nat} {σ : SG} {al : Bool} (hw : okM w a) (hi : Inv σ) {p v : Int} (h_p : 0 ≤ p ∧ p < 4) (h_v : 0 ≤ v ∧ v < 16) : GM M_X1_takeSingleFrame al [vR a, vI p, vI v] (setM w a (mem σ)) 0 0 (dt none (setM w a (mem (s_tsf σ p v)))) := by
  show G _ none _ _ 0 [some (vR a), some (vI p), some (vI v), none] [] _ _ _ _
  refine g_aload_n (i := 0) (pc := 0) dX1_takeSingleFrame_0 rfl rfl ?_
  refine g_v0 (pc := 1) okV_X1_lowestSingleFrame rfl l_X1_134 dX1_takeSingleFrame_1 (m_at0 hw) hc_1 (by decide) (by decide) (Nat.le_of_ble_eq_true rfl) (t_X1_lowestSingleFrame hw hi) (by simp only [m_len]) ?_
  simp only [Option.toList, List.cons_append, List.nil_append]
  have bb := lsf_rng σ
  refine g_istore_n (i := 3) (pc := 4) dX1_takeSingleFrame_4 rfl (by decide) rfl ?_
  simp only [List.set_cons_succ, List.set_cons_zero]
  refine g_iload_n (i := 3) (pc := 5) dX1_takeSingleFrame_5 rfl rfl ?_
  refine g_iconst (pc := 6) dX1_takeSingleFrame_6 ?_
  refine g_c_eq (tgt := 24) (pc := 7) dX1_takeSingleFrame_7 (by omega) (by decide) (fun c7 => ?_) (fun c7 => ?_)
  · skip
    refine g_vret (pc := 24) rfl dX1_takeSingleFrame_24 (fun h => h) ?_
    first
    | (unfold s_tsf; rw [if_pos (by omega)]; exact dt_v rfl)
    | (unfold s_tsf; rw [if_neg (by omega)]; refine dt_v (congrArg (fun z => setM w a (mem z)) ?_); unfold s_setfr; exact congrArg (fun z => (z, σ.2)) (up_up _ _ _ _))
  · skip
    refine g_aload_n (i := 0) (pc := 10) dX1_takeSingleFrame_10 rfl rfl ?_
    refine g_iload_n (i := 1) (pc := 11) dX1_takeSingleFrame_11 rfl rfl ?_
    refine g_iload_n (i := 2) (pc := 12) dX1_takeSingleFrame_12 rfl rfl ?_
    refine g_v2 (pc := 13) okV_X1_letGo rfl l_X1_137 dX1_takeSingleFrame_13 (m_at0 hw) hc_1 (by decide) (by decide) (Nat.le_of_ble_eq_true rfl) (t_X1_letGo hw hi (by omega) (by omega)) (by simp only [m_len]) ?_
    simp only [Option.toList, List.cons_append, List.nil_append]
    have hi := inv_fr (k := (16 * p + v).toNat) (x := -1) hi (by omega) (by omega) (Or.inl rfl)
    refine g_pop (pc := 16) dX1_takeSingleFrame_16 (fun z h => nomatch h) ?_
    have h_0 : s_fr (s_setfr σ (16 * p + v).toNat (-1)) (16 * p + v).toNat = -1 := up_s _ _ _
    refine g_aload_n (i := 0) (pc := 17) dX1_takeSingleFrame_17 rfl rfl ?_
    refine g_iload_n (i := 1) (pc := 18) dX1_takeSingleFrame_18 rfl rfl ?_
    refine g_iload_n (i := 2) (pc := 19) dX1_takeSingleFrame_19 rfl rfl ?_
    refine g_iload_n (i := 3) (pc := 20) dX1_takeSingleFrame_20 rfl rfl ?_
    refine g_v3 (pc := 21) okV_X1_takeFrame rfl l_X1_125 dX1_takeSingleFrame_21 (m_at0 hw) hc_1 (by decide) (by decide) (Nat.le_of_ble_eq_true rfl) (t_X1_takeFrame hw (by omega) (by omega) (by omega) (by first | assumption | omega)) (by simp only [m_len]) ?_
    simp only [Option.toList, List.cons_append, List.nil_append]
    refine g_vret (pc := 24) rfl dX1_takeSingleFrame_24 (fun h => h) ?_
    first
    | (unfold s_tsf; rw [if_pos (by omega)]; exact dt_v rfl)
    | (unfold s_tsf; rw [if_neg (by omega)]; refine dt_v (congrArg (fun z => setM w a (mem z)) ?_); unfold s_setfr; exact congrArg (fun z => (z, σ.2)) (up_up _ _ _ _))
set_option maxRecDepth 20000 in
set_option maxHeartbeats 4000000 in
theorem t_X1_copyOut {w : List MC} {a : Nat} {σ : SG} {al : Bool} (hw : okM w a) (hi : Inv σ) {p v : Int} (h_p : 0 ≤ p ∧ p < 4) (h_v : 0 ≤ v ∧ v < 16) : GM M_X1_copyOut al [vR a, vI p, vI v] (setM w a (mem σ)) 0 0 (dt none (setM w a (mem (s_cop σ p v)))) := by
  show G _ none _ _ 0 [some (vR a), some (vI p), some (vI v), none] [] _ _ _ _
  refine g_iload_n (i := 2) (pc := 0) dX1_copyOut_0 rfl rfl ?_
  refine g_iconst (pc := 1) dX1_copyOut_1 ?_
  refine g_idiv (pc := 2) dX1_copyOut_2 (by omega) (by omega) ?_
  have d9 := Int.tdiv_eq_ediv_of_nonneg (a := v) (b := 4) (by omega)
  refine g_istore_n (i := 3) (pc := 3) dX1_copyOut_3 rfl (by decide) rfl ?_
  simp only [List.set_cons_succ, List.set_cons_zero]
  refine g_aload_n (i := 0) (pc := 4) dX1_copyOut_4 rfl rfl ?_
  refine g_iload_n (i := 1) (pc := 5) dX1_copyOut_5 rfl rfl ?_
  refine g_iload_n (i := 3) (pc := 6) dX1_copyOut_6 rfl rfl ?_
  refine g_v2 (pc := 7) okV_X1_isBig rfl l_X1_77 dX1_copyOut_7 (m_at0 hw) hc_1 (by decide) (by decide) (Nat.le_of_ble_eq_true rfl) (t_X1_isBig hw hi (by omega) (by omega)) (by simp only [m_len]) ?_
  simp only [Option.toList, List.cons_append, List.nil_append]
  have bb := b2_rng (big σ (p) ((Int.tdiv v 4)))
  refine g_z_eq (tgt := 19) (pc := 10) dX1_copyOut_10 (by omega) (by decide) (fun c10 => ?_) (fun c10 => ?_)
  · skip
    refine g_aload_n (i := 0) (pc := 19) dX1_copyOut_19 rfl rfl ?_
    refine g_iload_n (i := 1) (pc := 20) dX1_copyOut_20 rfl rfl ?_
    refine g_iload_n (i := 2) (pc := 21) dX1_copyOut_21 rfl rfl ?_
    refine g_v2 (pc := 22) okV_X1_takeSingleFrame rfl l_X1_122 dX1_copyOut_22 (m_at0 hw) hc_1 (by decide) (by decide) (Nat.le_of_ble_eq_true rfl) (t_X1_takeSingleFrame hw hi (by omega) (by omega)) (by simp only [m_len]) ?_
    simp only [Option.toList, List.cons_append, List.nil_append]
    refine g_aload_n (i := 0) (pc := 25) dX1_copyOut_25 rfl rfl ?_
    refine g_dup (pc := 26) dX1_copyOut_26 (fun z h => nomatch h) ?_
    refine g_getf (pc := 27) f_X1_35 dX1_copyOut_27 (m_at0 hw) rfl ?_
    refine g_iconst (pc := 30) dX1_copyOut_30 ?_
    refine g_iadd (pc := 31) dX1_copyOut_31 ?_
    refine g_put (pc := 32) ft_X1_35 dX1_copyOut_32 (m_at0 hw) (Nat.le_of_ble_eq_true rfl) (fun _ => rfl) (fun _ => rfl) (fun h => nomatch h) ?_
    refine G.eqw (m_put6 hw) ?_
    refine g_vret (pc := 35) rfl dX1_copyOut_35 (fun h => h) ?_
    first
    | (unfold s_cop; rw [if_pos (b2_1.mp (by omega))]; exact dt_v rfl)
    | (unfold s_cop; rw [if_neg (b2_0.mp (by omega))]; exact dt_v rfl)
  · skip
    refine g_aload_n (i := 0) (pc := 13) dX1_copyOut_13 rfl rfl ?_
    refine g_iload_n (i := 1) (pc := 14) dX1_copyOut_14 rfl rfl ?_
    refine g_iload_n (i := 3) (pc := 15) dX1_copyOut_15 rfl rfl ?_
    refine g_v2 (pc := 16) okV_X1_becomeTorn rfl l_X1_131 dX1_copyOut_16 (m_at0 hw) hc_1 (by decide) (by decide) (Nat.le_of_ble_eq_true rfl) (t_X1_becomeTorn hw hi (by omega) (by omega)) (by simp only [m_len]) ?_
    simp only [Option.toList, List.cons_append, List.nil_append]
    have hi := inv_torn (p := p) (g := (Int.tdiv v 4)) hi (by omega) (by omega)
    refine g_aload_n (i := 0) (pc := 19) dX1_copyOut_19 rfl rfl ?_
    refine g_iload_n (i := 1) (pc := 20) dX1_copyOut_20 rfl rfl ?_
    refine g_iload_n (i := 2) (pc := 21) dX1_copyOut_21 rfl rfl ?_
    refine g_v2 (pc := 22) okV_X1_takeSingleFrame rfl l_X1_122 dX1_copyOut_22 (m_at0 hw) hc_1 (by decide) (by decide) (Nat.le_of_ble_eq_true rfl) (t_X1_takeSingleFrame hw hi (by omega) (by omega)) (by simp only [m_len]) ?_
    simp only [Option.toList, List.cons_append, List.nil_append]
    refine g_aload_n (i := 0) (pc := 25) dX1_copyOut_25 rfl rfl ?_
    refine g_dup (pc := 26) dX1_copyOut_26 (fun z h => nomatch h) ?_
    refine g_getf (pc := 27) f_X1_35 dX1_copyOut_27 (m_at0 hw) rfl ?_
    refine g_iconst (pc := 30) dX1_copyOut_30 ?_
    refine g_iadd (pc := 31) dX1_copyOut_31 ?_
    refine g_put (pc := 32) ft_X1_35 dX1_copyOut_32 (m_at0 hw) (Nat.le_of_ble_eq_true rfl) (fun _ => rfl) (fun _ => rfl) (fun h => nomatch h) ?_
    refine G.eqw (m_put6 hw) ?_
    refine g_vret (pc := 35) rfl dX1_copyOut_35 (fun h => h) ?_
    first
    | (unfold s_cop; rw [if_pos (b2_1.mp (by omega))]; exact dt_v rfl)
    | (unfold s_cop; rw [if_neg (b2_0.mp (by omega))]; exact dt_v rfl)
set_option maxRecDepth 20000 in
set_option maxHeartbeats 4000000 in
theorem t_X1_bringInWhole {w : List MC} {a : Nat} {σ : SG} {al : Bool} (hw : okM w a) (hi : Inv σ) {p g : Int} (h_p : 0 ≤ p ∧ p < 4) (h_g : 0 ≤ g ∧ g < 4) {r : Int} (h_r : 0 ≤ r ∧ r < 8) (h_0 : ∀ i : Nat, i < 4 → s_fr σ (16 * p + (4 * g + i)).toNat = -1) (h_e : s_ex σ p.toNat = 1) : GM M_X1_bringInWhole al [vR a, vI p, vI g, vI r] (setM w a (mem σ)) 0 0 (dt none (setM w a (mem (s_who σ p g r)))) := by
  show G _ none _ _ 0 [some (vR a), some (vI p), some (vI g), some (vI r), none, none] [] _ _ _ _
  refine g_iconst (pc := 0) dX1_bringInWhole_0 ?_
  refine g_istore (pc := 1) dX1_bringInWhole_1 (by decide) rfl ?_
  simp only [List.set_cons_succ, List.set_cons_zero]
  refine lp_up (P := fun k => G M_X1_bringInWhole none al al 3 [some (vR a), some (vI p), some (vI g), some (vI r), some (vI k), none] [] (setM w a (mem (s_wh σ p g r k))) 0 0 (dt none (setM w a (mem (s_who σ p g r))))) 4 ?_ ?_ 0 (Nat.zero_le _)
  · have hi := inv_wh hi (p := p) (g := g) (r := r) ⟨h_p.1, h_p.2, h_e⟩ h_g h_r 4 (by omega)
    show G _ _ _ _ _ _ _ _ _ _ _
    refine g_iload (pc := 3) dX1_bringInWhole_3 rfl ?_
    refine g_iconst (pc := 5) dX1_bringInWhole_5 ?_
    refine g_c_ge (tgt := 44) (pc := 6) dX1_bringInWhole_6 (by omega) (by decide) (fun c6 => ?_) (fun c6 => absurd c6 (by omega))
    refine g_aload_n (i := 0) (pc := 44) dX1_bringInWhole_44 rfl rfl ?_
    refine g_iload_n (i := 1) (pc := 45) dX1_bringInWhole_45 rfl rfl ?_
    refine g_iload_n (i := 2) (pc := 46) dX1_bringInWhole_46 rfl rfl ?_
    refine g_v2 (pc := 47) okV_X1_becomeBig rfl l_X1_128 dX1_bringInWhole_47 (m_at0 hw) hc_1 (by decide) (by decide) (Nat.le_of_ble_eq_true rfl) (t_X1_becomeBig hw hi (by omega) (by omega)) (by simp only [m_len]) ?_
    simp only [Option.toList, List.cons_append, List.nil_append]
    refine g_vret (pc := 50) rfl dX1_bringInWhole_50 (fun h => h) ?_
    exact dt_v rfl
  · intro k hk ih
    have hi := inv_wh hi (p := p) (g := g) (r := r) ⟨h_p.1, h_p.2, h_e⟩ h_g h_r k (by omega)
    have h_1 : s_fr (s_wh σ p g r k) (16 * p + (4 * g + k)).toNat = -1 := by
      rw [wh_fr σ p g r (fun i hi => by omega)]
      exact h_0 k hk
    show G _ _ _ _ _ _ _ _ _ _ _
    refine g_iload (pc := 3) dX1_bringInWhole_3 rfl ?_
    refine g_iconst (pc := 5) dX1_bringInWhole_5 ?_
    refine g_c_ge (tgt := 44) (pc := 6) dX1_bringInWhole_6 (by omega) (by decide) (fun c6 => absurd c6 (by omega)) (fun c6 => ?_)
    refine g_iconst (pc := 9) dX1_bringInWhole_9 ?_
    refine g_iload_n (i := 3) (pc := 10) dX1_bringInWhole_10 rfl rfl ?_
    refine g_imul (pc := 11) dX1_bringInWhole_11 ?_
    refine g_iload (pc := 12) dX1_bringInWhole_12 rfl ?_
    refine g_iadd (pc := 14) dX1_bringInWhole_14 ?_
    refine g_istore (pc := 15) dX1_bringInWhole_15 (by decide) rfl ?_
    simp only [List.set_cons_succ, List.set_cons_zero]
    refine g_aload_n (i := 0) (pc := 17) dX1_bringInWhole_17 rfl rfl ?_
    refine g_iload_n (i := 1) (pc := 18) dX1_bringInWhole_18 rfl rfl ?_
    refine g_iconst (pc := 19) dX1_bringInWhole_19 ?_
    refine g_iload_n (i := 2) (pc := 20) dX1_bringInWhole_20 rfl rfl ?_
    refine g_imul (pc := 21) dX1_bringInWhole_21 ?_
    refine g_iload (pc := 22) dX1_bringInWhole_22 rfl ?_
    refine g_iadd (pc := 24) dX1_bringInWhole_24 ?_
    refine g_iload (pc := 25) dX1_bringInWhole_25 rfl ?_
    refine g_v3 (pc := 27) okV_X1_takeFrame rfl l_X1_125 dX1_bringInWhole_27 (m_at0 hw) hc_1 (by decide) (by decide) (Nat.le_of_ble_eq_true rfl) (t_X1_takeFrame hw (by omega) (by omega) (by omega) (by first | assumption | omega)) (by simp only [m_len]) ?_
    simp only [Option.toList, List.cons_append, List.nil_append]
    refine g_aload_n (i := 0) (pc := 30) dX1_bringInWhole_30 rfl rfl ?_
    refine g_getf (pc := 31) f_X1_18 dX1_bringInWhole_31 (m_at0 hw) rfl ?_
    refine g_iload (pc := 34) dX1_bringInWhole_34 rfl ?_
    refine g_iconst (pc := 36) dX1_bringInWhole_36 ?_
    refine g_iast (pc := 37) dX1_bringInWhole_37 (m_at3 hw) (by omega) ?_
    refine G.eqw (m_set3 hw) ?_
    refine g_iinc (pc := 38) dX1_bringInWhole_38 rfl (by decide) rfl ?_
    simp only [List.set_cons_succ, List.set_cons_zero]
    refine g_goto (tgt := 3) (pc := 41) dX1_bringInWhole_41 (by decide) ?_
    refine G.drop 5 ?_
    simp only [List.set_cons_succ, List.set_cons_zero]
    exact ih
set_option maxRecDepth 20000 in
set_option maxHeartbeats 4000000 in
theorem t_X1_bringIn {w : List MC} {a : Nat} {σ : SG} {al : Bool} (hw : okM w a) (hi : Inv σ) {p v : Int} (h_p : 0 ≤ p ∧ p < 4) (h_v : 0 ≤ v ∧ v < 16) (h_e : s_ex σ p.toNat = 1) : GM M_X1_bringIn al [vR a, vI p, vI v] (setM w a (mem σ)) 0 0 (dt none (setM w a (mem (s_bri σ p v)))) := by
  show G _ none _ _ 0 [some (vR a), some (vI p), some (vI v), none, none] [] _ _ _ _
  refine g_iload_n (i := 2) (pc := 0) dX1_bringIn_0 rfl rfl ?_
  refine g_iconst (pc := 1) dX1_bringIn_1 ?_
  refine g_idiv (pc := 2) dX1_bringIn_2 (by omega) (by omega) ?_
  have d9 := Int.tdiv_eq_ediv_of_nonneg (a := v) (b := 4) (by omega)
  refine g_istore_n (i := 3) (pc := 3) dX1_bringIn_3 rfl (by decide) rfl ?_
  simp only [List.set_cons_succ, List.set_cons_zero]
  refine g_aload_n (i := 0) (pc := 4) dX1_bringIn_4 rfl rfl ?_
  refine g_v0 (pc := 5) okV_X1_lowestFreeRun rfl l_X1_112 dX1_bringIn_5 (m_at0 hw) hc_1 (by decide) (by decide) (Nat.le_of_ble_eq_true rfl) (t_X1_lowestFreeRun hw hi) (by simp only [m_len]) ?_
  simp only [Option.toList, List.cons_append, List.nil_append]
  have bb := lfr_rng σ
  refine g_istore (pc := 8) dX1_bringIn_8 (by decide) rfl ?_
  simp only [List.set_cons_succ, List.set_cons_zero]
  refine g_aload_n (i := 0) (pc := 10) dX1_bringIn_10 rfl rfl ?_
  refine g_getf (pc := 11) f_X1_31 dX1_bringIn_11 (m_at0 hw) rfl ?_
  have z9 := hi.2.2.2.2.2.2.2.2.1
  refine G.eqS (v' := vI (s_ea σ)) rfl ?_
  refine g_z_eq (tgt := 43) (pc := 14) dX1_bringIn_14 (by omega) (by decide) (fun c14 => ?_) (fun c14 => ?_)
  · skip
    refine g_aload_n (i := 0) (pc := 43) dX1_bringIn_43 rfl rfl ?_
    refine g_iload_n (i := 1) (pc := 44) dX1_bringIn_44 rfl rfl ?_
    refine g_iload_n (i := 2) (pc := 45) dX1_bringIn_45 rfl rfl ?_
    refine g_v2 (pc := 46) okV_X1_takeSingleFrame rfl l_X1_122 dX1_bringIn_46 (m_at0 hw) hc_1 (by decide) (by decide) (Nat.le_of_ble_eq_true rfl) (t_X1_takeSingleFrame hw hi (by omega) (by omega)) (by simp only [m_len]) ?_
    simp only [Option.toList, List.cons_append, List.nil_append]
    refine g_aload_n (i := 0) (pc := 49) dX1_bringIn_49 rfl rfl ?_
    refine g_dup (pc := 50) dX1_bringIn_50 (fun z h => nomatch h) ?_
    refine g_getf (pc := 51) f_X1_38 dX1_bringIn_51 (m_at0 hw) rfl ?_
    refine g_iconst (pc := 54) dX1_bringIn_54 ?_
    refine g_iadd (pc := 55) dX1_bringIn_55 ?_
    refine g_put (pc := 56) ft_X1_38 dX1_bringIn_56 (m_at0 hw) (Nat.le_of_ble_eq_true rfl) (fun _ => rfl) (fun _ => rfl) (fun h => nomatch h) ?_
    refine G.eqw (m_put7 hw) ?_
    refine g_vret (pc := 59) rfl dX1_bringIn_59 (fun h => h) ?_
    first
    | (unfold s_bri; rw [if_pos (by omega)]; exact dt_v rfl)
    | (unfold s_bri; rw [if_neg (by omega)]; exact dt_v rfl)
  · skip
    refine g_iload (pc := 17) dX1_bringIn_17 rfl ?_
    refine g_iconst (pc := 19) dX1_bringIn_19 ?_
    refine g_c_eq (tgt := 43) (pc := 20) dX1_bringIn_20 (by omega) (by decide) (fun c20 => ?_) (fun c20 => ?_)
    · skip
      refine g_aload_n (i := 0) (pc := 43) dX1_bringIn_43 rfl rfl ?_
      refine g_iload_n (i := 1) (pc := 44) dX1_bringIn_44 rfl rfl ?_
      refine g_iload_n (i := 2) (pc := 45) dX1_bringIn_45 rfl rfl ?_
      refine g_v2 (pc := 46) okV_X1_takeSingleFrame rfl l_X1_122 dX1_bringIn_46 (m_at0 hw) hc_1 (by decide) (by decide) (Nat.le_of_ble_eq_true rfl) (t_X1_takeSingleFrame hw hi (by omega) (by omega)) (by simp only [m_len]) ?_
      simp only [Option.toList, List.cons_append, List.nil_append]
      refine g_aload_n (i := 0) (pc := 49) dX1_bringIn_49 rfl rfl ?_
      refine g_dup (pc := 50) dX1_bringIn_50 (fun z h => nomatch h) ?_
      refine g_getf (pc := 51) f_X1_38 dX1_bringIn_51 (m_at0 hw) rfl ?_
      refine g_iconst (pc := 54) dX1_bringIn_54 ?_
      refine g_iadd (pc := 55) dX1_bringIn_55 ?_
      refine g_put (pc := 56) ft_X1_38 dX1_bringIn_56 (m_at0 hw) (Nat.le_of_ble_eq_true rfl) (fun _ => rfl) (fun _ => rfl) (fun h => nomatch h) ?_
      refine G.eqw (m_put7 hw) ?_
      refine g_vret (pc := 59) rfl dX1_bringIn_59 (fun h => h) ?_
      first
      | (unfold s_bri; rw [if_pos (by omega)]; exact dt_v rfl)
      | (unfold s_bri; rw [if_neg (by omega)]; exact dt_v rfl)
    · skip
      refine g_aload_n (i := 0) (pc := 23) dX1_bringIn_23 rfl rfl ?_
      refine g_iload_n (i := 1) (pc := 24) dX1_bringIn_24 rfl rfl ?_
      refine g_iload_n (i := 3) (pc := 25) dX1_bringIn_25 rfl rfl ?_
      refine g_v2 (pc := 26) okV_X1_pagesWithFrame rfl l_X1_115 dX1_bringIn_26 (m_at0 hw) hc_1 (by decide) (by decide) (Nat.le_of_ble_eq_true rfl) (t_X1_pagesWithFrame hw hi (by omega) (by omega)) (by simp only [m_len]) ?_
      simp only [Option.toList, List.cons_append, List.nil_append]
      have bb := pf_rng σ (p) ((Int.tdiv v 4))
      refine g_z_ne (tgt := 43) (pc := 29) dX1_bringIn_29 (by omega) (by decide) (fun c29 => ?_) (fun c29 => ?_)
      · skip
        refine g_aload_n (i := 0) (pc := 43) dX1_bringIn_43 rfl rfl ?_
        refine g_iload_n (i := 1) (pc := 44) dX1_bringIn_44 rfl rfl ?_
        refine g_iload_n (i := 2) (pc := 45) dX1_bringIn_45 rfl rfl ?_
        refine g_v2 (pc := 46) okV_X1_takeSingleFrame rfl l_X1_122 dX1_bringIn_46 (m_at0 hw) hc_1 (by decide) (by decide) (Nat.le_of_ble_eq_true rfl) (t_X1_takeSingleFrame hw hi (by omega) (by omega)) (by simp only [m_len]) ?_
        simp only [Option.toList, List.cons_append, List.nil_append]
        refine g_aload_n (i := 0) (pc := 49) dX1_bringIn_49 rfl rfl ?_
        refine g_dup (pc := 50) dX1_bringIn_50 (fun z h => nomatch h) ?_
        refine g_getf (pc := 51) f_X1_38 dX1_bringIn_51 (m_at0 hw) rfl ?_
        refine g_iconst (pc := 54) dX1_bringIn_54 ?_
        refine g_iadd (pc := 55) dX1_bringIn_55 ?_
        refine g_put (pc := 56) ft_X1_38 dX1_bringIn_56 (m_at0 hw) (Nat.le_of_ble_eq_true rfl) (fun _ => rfl) (fun _ => rfl) (fun h => nomatch h) ?_
        refine G.eqw (m_put7 hw) ?_
        refine g_vret (pc := 59) rfl dX1_bringIn_59 (fun h => h) ?_
        first
        | (unfold s_bri; rw [if_pos (by omega)]; exact dt_v rfl)
        | (unfold s_bri; rw [if_neg (by omega)]; exact dt_v rfl)
      · skip
        have h_0 : ∀ i : Nat, i < 4 → s_fr σ (16 * p + (4 * (v.tdiv 4) + i)).toNat = -1 := by
          intro i hi9
          have h8 : pf σ p (v.tdiv 4) = 0 := by omega
          have h9 := ct_zero.mp h8 i hi9
          rw [decide_eq_true_eq] at h9
          rw [← fo_in h_p (v := 4 * (v.tdiv 4) + i) (by omega)]
          omega
        refine g_aload_n (i := 0) (pc := 32) dX1_bringIn_32 rfl rfl ?_
        refine g_iload_n (i := 1) (pc := 33) dX1_bringIn_33 rfl rfl ?_
        refine g_iload_n (i := 3) (pc := 34) dX1_bringIn_34 rfl rfl ?_
        refine g_iload (pc := 35) dX1_bringIn_35 rfl ?_
        refine g_v3 (pc := 37) okV_X1_bringInWhole rfl l_X1_118 dX1_bringIn_37 (m_at0 hw) hc_1 (by decide) (by decide) (Nat.le_of_ble_eq_true rfl) (t_X1_bringInWhole hw hi (by omega) (by omega) (by omega) h_0 h_e) (by simp only [m_len]) ?_
        simp only [Option.toList, List.cons_append, List.nil_append]
        refine g_goto (tgt := 49) (pc := 40) dX1_bringIn_40 (by decide) ?_
        refine g_aload_n (i := 0) (pc := 49) dX1_bringIn_49 rfl rfl ?_
        refine g_dup (pc := 50) dX1_bringIn_50 (fun z h => nomatch h) ?_
        refine g_getf (pc := 51) f_X1_38 dX1_bringIn_51 (m_at0 hw) rfl ?_
        refine g_iconst (pc := 54) dX1_bringIn_54 ?_
        refine g_iadd (pc := 55) dX1_bringIn_55 ?_
        refine g_put (pc := 56) ft_X1_38 dX1_bringIn_56 (m_at0 hw) (Nat.le_of_ble_eq_true rfl) (fun _ => rfl) (fun _ => rfl) (fun h => nomatch h) ?_
        refine G.eqw (m_put7 hw) ?_
        refine g_vret (pc := 59) rfl dX1_bringIn_59 (fun h => h) ?_
        first
        | (unfold s_bri; rw [if_pos (by omega)]; exact dt_v rfl)
        | (unfold s_bri; rw [if_neg (by omega)]; exact dt_v rfl)
set_option maxRecDepth 20000 in
set_option maxHeartbeats 4000000 in
theorem t_X1_doWrite {w : List MC} {a : Nat} {σ : SG} {al : Bool} (hw : okM w a) (hi : Inv σ) {p v x : Int} (h_p : -2147483648 ≤ p ∧ p < 2147483648) (h_v : -2147483648 ≤ v ∧ v < 2147483648) (h_x : -2147483648 ≤ x ∧ x < 2147483648) : GM M_X1_doWrite al [vR a, vI p, vI v, vI x] (setM w a (mem σ)) 0 0 (dt (some (vI (if oc σ p v = -1 ∨ x < 0 ∨ 100 ≤ x then -1 else oc σ p v))) (setM w a (mem (if oc σ p v = -1 ∨ x < 0 ∨ 100 ≤ x then σ else s_wri σ p v x)))) := by
  show G _ none _ _ 0 [some (vR a), some (vI p), some (vI v), some (vI x), none, none] [] _ _ _ _
  refine g_aload_n (i := 0) (pc := 0) dX1_doWrite_0 rfl rfl ?_
  refine g_iload_n (i := 1) (pc := 1) dX1_doWrite_1 rfl rfl ?_
  refine g_iload_n (i := 2) (pc := 2) dX1_doWrite_2 rfl rfl ?_
  refine g_v2 (pc := 3) okV_X1_outcomeOfWrite rfl l_X1_103 dX1_doWrite_3 (m_at0 hw) hc_1 (by decide) (by decide) (Nat.le_of_ble_eq_true rfl) (t_X1_outcomeOfWrite hw hi (by omega) (by omega)) (by simp only [m_len]) ?_
  simp only [Option.toList, List.cons_append, List.nil_append]
  have bb := oc_rng (σ) (p) (v)
  refine g_istore (pc := 6) dX1_doWrite_6 (by decide) rfl ?_
  simp only [List.set_cons_succ, List.set_cons_zero]
  refine g_iload (pc := 8) dX1_doWrite_8 rfl ?_
  refine g_iconst (pc := 10) dX1_doWrite_10 ?_
  refine g_c_eq (tgt := 24) (pc := 11) dX1_doWrite_11 (by omega) (by decide) (fun c11 => ?_) (fun c11 => ?_)
  · skip
    refine g_iconst (pc := 24) dX1_doWrite_24 ?_
    refine g_iret (pc := 25) rfl dX1_doWrite_25 (fun h => h) ?_
    rw [if_pos (by omega), if_pos (by omega)]
    exact dt_i rfl rfl
  · skip
    refine g_iload_n (i := 3) (pc := 14) dX1_doWrite_14 rfl rfl ?_
    refine g_z_lt (tgt := 24) (pc := 15) dX1_doWrite_15 (by omega) (by decide) (fun c15 => ?_) (fun c15 => ?_)
    · skip
      refine g_iconst (pc := 24) dX1_doWrite_24 ?_
      refine g_iret (pc := 25) rfl dX1_doWrite_25 (fun h => h) ?_
      rw [if_pos (by omega), if_pos (by omega)]
      exact dt_i rfl rfl
    · skip
      refine g_iload_n (i := 3) (pc := 18) dX1_doWrite_18 rfl rfl ?_
      refine g_bipush (pc := 19) dX1_doWrite_19 (by decide) ?_
      refine g_c_lt (tgt := 26) (pc := 21) dX1_doWrite_21 (by omega) (by decide) (fun c21 => ?_) (fun c21 => ?_)
      · skip
        obtain ⟨⟨h_p1, h_p2, h_e⟩, h_v1, h_v2⟩ := ex_pg (oc_pg (show oc σ p v ≠ -1 by omega))
        refine g_iload (pc := 26) dX1_doWrite_26 rfl ?_
        refine g_iconst (pc := 28) dX1_doWrite_28 ?_
        refine g_c_ne (tgt := 41) (pc := 29) dX1_doWrite_29 (by omega) (by decide) (fun c29 => ?_) (fun c29 => ?_)
        · skip
          refine g_iload (pc := 41) dX1_doWrite_41 rfl ?_
          refine g_z_eq (tgt := 52) (pc := 43) dX1_doWrite_43 (by omega) (by decide) (fun c43 => ?_) (fun c43 => ?_)
          · skip
            have e1 : s_wri1 σ p v = σ := by
              unfold s_wri1
              first
              | (rw [if_pos (by omega)]; done)
              | (rw [if_neg (by omega), if_pos (by omega)]; done)
              | rw [if_neg (by omega), if_neg (by omega)]
            refine g_aload_n (i := 0) (pc := 52) dX1_doWrite_52 rfl rfl ?_
            refine g_iload_n (i := 1) (pc := 53) dX1_doWrite_53 rfl rfl ?_
            refine g_iload_n (i := 2) (pc := 54) dX1_doWrite_54 rfl rfl ?_
            refine g_v2 (pc := 55) okV_X1_frameOf rfl l_X1_73 dX1_doWrite_55 (m_at0 hw) hc_1 (by decide) (by decide) (Nat.le_of_ble_eq_true rfl) (t_X1_frameOf hw hi (by omega) (by omega)) (by simp only [m_len]) ?_
            simp only [Option.toList, List.cons_append, List.nil_append]
            have bb := fo_rng hi (p) (v)
            refine g_istore (pc := 58) dX1_doWrite_58 (by decide) rfl ?_
            simp only [List.set_cons_succ, List.set_cons_zero]
            refine g_iload (pc := 60) dX1_doWrite_60 rfl ?_
            refine g_iconst (pc := 62) dX1_doWrite_62 ?_
            refine g_c_eq (tgt := 74) (pc := 63) dX1_doWrite_63 (by omega) (by decide) (fun c63 => ?_) (fun c63 => ?_)
            · skip
              refine g_iload (pc := 74) dX1_doWrite_74 rfl ?_
              refine g_iret (pc := 76) rfl dX1_doWrite_76 (fun h => h) ?_
              rw [if_neg (by omega), if_neg (by omega)]
              unfold s_wri
              rw [e1]
              first
              | (rw [if_pos (by omega)]; exact dt_i rfl rfl)
              | (rw [if_neg (by omega)]; exact dt_i rfl rfl)
            · skip
              refine g_aload_n (i := 0) (pc := 66) dX1_doWrite_66 rfl rfl ?_
              refine g_getf (pc := 67) f_X1_18 dX1_doWrite_67 (m_at0 hw) rfl ?_
              refine g_iload (pc := 70) dX1_doWrite_70 rfl ?_
              refine g_iload_n (i := 3) (pc := 72) dX1_doWrite_72 rfl rfl ?_
              refine g_iast (pc := 73) dX1_doWrite_73 (m_at3 hw) (by omega) ?_
              refine G.eqw (m_set3 hw) ?_
              refine g_iload (pc := 74) dX1_doWrite_74 rfl ?_
              refine g_iret (pc := 76) rfl dX1_doWrite_76 (fun h => h) ?_
              rw [if_neg (by omega), if_neg (by omega)]
              unfold s_wri
              rw [e1]
              first
              | (rw [if_pos (by omega)]; exact dt_i rfl rfl)
              | (rw [if_neg (by omega)]; exact dt_i rfl rfl)
          · skip
            refine g_aload_n (i := 0) (pc := 46) dX1_doWrite_46 rfl rfl ?_
            refine g_iload_n (i := 1) (pc := 47) dX1_doWrite_47 rfl rfl ?_
            refine g_iload_n (i := 2) (pc := 48) dX1_doWrite_48 rfl rfl ?_
            refine g_v2 (pc := 49) okV_X1_copyOut rfl l_X1_109 dX1_doWrite_49 (m_at0 hw) hc_1 (by decide) (by decide) (Nat.le_of_ble_eq_true rfl) (t_X1_copyOut hw hi (by omega) (by omega)) (by simp only [m_len]) ?_
            simp only [Option.toList, List.cons_append, List.nil_append]
            have hi := inv_cop (p := p) (v := v) hi ⟨by omega, by omega, h_e⟩ (by omega)
            have e1 : s_wri1 σ p v = s_cop (σ) (p) (v) := by
              unfold s_wri1
              first
              | (rw [if_pos (by omega)]; done)
              | (rw [if_neg (by omega), if_pos (by omega)]; done)
              | rw [if_neg (by omega), if_neg (by omega)]
            refine g_aload_n (i := 0) (pc := 52) dX1_doWrite_52 rfl rfl ?_
            refine g_iload_n (i := 1) (pc := 53) dX1_doWrite_53 rfl rfl ?_
            refine g_iload_n (i := 2) (pc := 54) dX1_doWrite_54 rfl rfl ?_
            refine g_v2 (pc := 55) okV_X1_frameOf rfl l_X1_73 dX1_doWrite_55 (m_at0 hw) hc_1 (by decide) (by decide) (Nat.le_of_ble_eq_true rfl) (t_X1_frameOf hw hi (by omega) (by omega)) (by simp only [m_len]) ?_
            simp only [Option.toList, List.cons_append, List.nil_append]
            have bb := fo_rng hi (p) (v)
            refine g_istore (pc := 58) dX1_doWrite_58 (by decide) rfl ?_
            simp only [List.set_cons_succ, List.set_cons_zero]
            refine g_iload (pc := 60) dX1_doWrite_60 rfl ?_
            refine g_iconst (pc := 62) dX1_doWrite_62 ?_
            refine g_c_eq (tgt := 74) (pc := 63) dX1_doWrite_63 (by omega) (by decide) (fun c63 => ?_) (fun c63 => ?_)
            · skip
              refine g_iload (pc := 74) dX1_doWrite_74 rfl ?_
              refine g_iret (pc := 76) rfl dX1_doWrite_76 (fun h => h) ?_
              rw [if_neg (by omega), if_neg (by omega)]
              unfold s_wri
              rw [e1]
              first
              | (rw [if_pos (by omega)]; exact dt_i rfl rfl)
              | (rw [if_neg (by omega)]; exact dt_i rfl rfl)
            · skip
              refine g_aload_n (i := 0) (pc := 66) dX1_doWrite_66 rfl rfl ?_
              refine g_getf (pc := 67) f_X1_18 dX1_doWrite_67 (m_at0 hw) rfl ?_
              refine g_iload (pc := 70) dX1_doWrite_70 rfl ?_
              refine g_iload_n (i := 3) (pc := 72) dX1_doWrite_72 rfl rfl ?_
              refine g_iast (pc := 73) dX1_doWrite_73 (m_at3 hw) (by omega) ?_
              refine G.eqw (m_set3 hw) ?_
              refine g_iload (pc := 74) dX1_doWrite_74 rfl ?_
              refine g_iret (pc := 76) rfl dX1_doWrite_76 (fun h => h) ?_
              rw [if_neg (by omega), if_neg (by omega)]
              unfold s_wri
              rw [e1]
              first
              | (rw [if_pos (by omega)]; exact dt_i rfl rfl)
              | (rw [if_neg (by omega)]; exact dt_i rfl rfl)
        · skip
          refine g_aload_n (i := 0) (pc := 32) dX1_doWrite_32 rfl rfl ?_
          refine g_iload_n (i := 1) (pc := 33) dX1_doWrite_33 rfl rfl ?_
          refine g_iload_n (i := 2) (pc := 34) dX1_doWrite_34 rfl rfl ?_
          refine g_v2 (pc := 35) okV_X1_bringIn rfl l_X1_106 dX1_doWrite_35 (m_at0 hw) hc_1 (by decide) (by decide) (Nat.le_of_ble_eq_true rfl) (t_X1_bringIn hw hi (by omega) (by omega) h_e) (by simp only [m_len]) ?_
          simp only [Option.toList, List.cons_append, List.nil_append]
          have hi := inv_bri (p := p) (v := v) hi ⟨by omega, by omega, h_e⟩ (by omega)
          refine g_goto (tgt := 52) (pc := 38) dX1_doWrite_38 (by decide) ?_
          have e1 : s_wri1 σ p v = s_bri (σ) (p) (v) := by
            unfold s_wri1
            first
            | (rw [if_pos (by omega)]; done)
            | (rw [if_neg (by omega), if_pos (by omega)]; done)
            | rw [if_neg (by omega), if_neg (by omega)]
          refine g_aload_n (i := 0) (pc := 52) dX1_doWrite_52 rfl rfl ?_
          refine g_iload_n (i := 1) (pc := 53) dX1_doWrite_53 rfl rfl ?_
          refine g_iload_n (i := 2) (pc := 54) dX1_doWrite_54 rfl rfl ?_
          refine g_v2 (pc := 55) okV_X1_frameOf rfl l_X1_73 dX1_doWrite_55 (m_at0 hw) hc_1 (by decide) (by decide) (Nat.le_of_ble_eq_true rfl) (t_X1_frameOf hw hi (by omega) (by omega)) (by simp only [m_len]) ?_
          simp only [Option.toList, List.cons_append, List.nil_append]
          have bb := fo_rng hi (p) (v)
          refine g_istore (pc := 58) dX1_doWrite_58 (by decide) rfl ?_
          simp only [List.set_cons_succ, List.set_cons_zero]
          refine g_iload (pc := 60) dX1_doWrite_60 rfl ?_
          refine g_iconst (pc := 62) dX1_doWrite_62 ?_
          refine g_c_eq (tgt := 74) (pc := 63) dX1_doWrite_63 (by omega) (by decide) (fun c63 => ?_) (fun c63 => ?_)
          · skip
            refine g_iload (pc := 74) dX1_doWrite_74 rfl ?_
            refine g_iret (pc := 76) rfl dX1_doWrite_76 (fun h => h) ?_
            rw [if_neg (by omega), if_neg (by omega)]
            unfold s_wri
            rw [e1]
            first
            | (rw [if_pos (by omega)]; exact dt_i rfl rfl)
            | (rw [if_neg (by omega)]; exact dt_i rfl rfl)
          · skip
            refine g_aload_n (i := 0) (pc := 66) dX1_doWrite_66 rfl rfl ?_
            refine g_getf (pc := 67) f_X1_18 dX1_doWrite_67 (m_at0 hw) rfl ?_
            refine g_iload (pc := 70) dX1_doWrite_70 rfl ?_
            refine g_iload_n (i := 3) (pc := 72) dX1_doWrite_72 rfl rfl ?_
            refine g_iast (pc := 73) dX1_doWrite_73 (m_at3 hw) (by omega) ?_
            refine G.eqw (m_set3 hw) ?_
            refine g_iload (pc := 74) dX1_doWrite_74 rfl ?_
            refine g_iret (pc := 76) rfl dX1_doWrite_76 (fun h => h) ?_
            rw [if_neg (by omega), if_neg (by omega)]
            unfold s_wri
            rw [e1]
            first
            | (rw [if_pos (by omega)]; exact dt_i rfl rfl)
            | (rw [if_neg (by omega)]; exact dt_i rfl rfl)
      · skip
        refine g_iconst (pc := 24) dX1_doWrite_24 ?_
        refine g_iret (pc := 25) rfl dX1_doWrite_25 (fun h => h) ?_
        rw [if_pos (by omega), if_pos (by omega)]
        exact dt_i rfl rfl
