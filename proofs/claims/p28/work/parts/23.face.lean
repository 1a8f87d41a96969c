/-! THE CLASS'S FACE: its methods (printed by wip/whole/cls3.py, but for the first rows) -/
section FB
def xc_app (κ : KT) (x : Int) : Int := if x < 0 ∨ 255 < x then 1 else if 100 ≤ k_ln κ then 2 else 0
def xk_app (κ : KT) (x : Int) : KT := k_setln (k_setsg κ (va_up (k_sg κ) (k_ln κ).toNat x)) (k_ln κ + 1)
def xc_ab (x : Int) : Int := if 0 ≤ x ∧ x ≤ 10 then 0 else 1
def ab (σ : SG) (x : Int) : Int := if x = 0 then bsum (s_ex σ) 4 else if x = 1 then nff σ else if x = 2 then nfr σ else if x = 3 then nbg σ else if x = 4 then nwid σ else if x = 5 then nsf σ else if x = 6 then s_co σ else if x = 7 then s_fa σ else if x = 8 then s_te σ else if x = 9 then s_lo σ else s_ea σ
def xc_pg (σ : SG) (p v x : Int) : Int := if hasPg σ p v = true then (if 0 ≤ x ∧ x ≤ 3 then 0 else 2) else 1
def pgv (σ : SG) (p v x : Int) : Int := if x = 0 then fo σ p v else if x = 1 then vo σ p v else if x = 2 then uo σ p v else b2 (big σ p (v.tdiv 4))
def xc_us (f i : Int) : Int := if f < 0 ∨ 32 ≤ f then 1 else if i < 0 then 2 else 0
def xc_gr (σ : SG) (p g x : Int) : Int := if hasGr σ p g = true then (if 0 ≤ x ∧ x ≤ 4 then 0 else 2) else 1
def grv (σ : SG) (p g x : Int) : Int := if x = 0 then pf σ p g else if x = 1 then b2 (big σ p g) else if x = 2 then b2 (wid σ p g) else if x = 3 then ps σ p g else ro σ p g
def xc_wr (σ : SG) (p v x : Int) : Int := if hasPg σ p v = true then (if x < 0 ∨ 100 ≤ x then 2 else if oc σ p v = -1 then 3 else 0) else 1
def xc_fk (σ : SG) (p : Int) : Int := if hasP σ p = true then (if lup σ = -1 then 2 else 0) else 1
def xc_ex (σ : SG) (p : Int) : Int := if hasP σ p = true then (if canE σ p = true then 0 else 2) else 1
def xc_ma (σ : SG) (p g : Int) : Int := if hasGr σ p g = true then (if wn σ p g = 0 then 0 else 2) else 1
def xc_te (σ : SG) (p g : Int) : Int := if hasGr σ p g = true then (if big σ p g = true then 0 else 2) else 1
def xc_pr (n : Int) : Int := if 1 ≤ n ∧ n ≤ 32 then 0 else 1
def xc_un (κ : KT) : Int := if k_sz κ = 0 then 1 else 0
def xc_wn (σ : SG) (p g : Int) : Int := if hasGr σ p g = true then 0 else 1
def xc_wd (σ : SG) (p v : Int) : Int := if hasPg σ p v = true then 0 else 1
def xc_wa (σ : SG) (p : Int) : Int := if hasP σ p = true then 0 else 1
def xc_sv (x : Int) : Int := if 0 ≤ x ∧ x < 2 then 0 else 1
def xc_rs (κ : KT) (x : Int) : Int := if 0 ≤ x ∧ x < 2 then (if k_fl κ x.toNat = 0 then 2 else 0) else 1
def xk_sv (κ : KT) (x : Int) : KT := k_setfl (k_setms κ (16 + x.toNat) (k_ms κ 0)) (va_up (k_fl κ) x.toNat 1)
def xk_rs (κ : KT) (x : Int) : KT := k_setsz (k_setms κ 0 (k_ms κ (16 + x.toNat))) 0
def itm (σ : SG) : Nat → SG
  | 0 => σ
  | k + 1 => dn (itm σ k)
theorem inv_itm {σ : SG} (hi : Inv σ) : ∀ k, Inv (itm σ k)
  | 0 => hi
  | k + 1 => inv_dn (inv_itm hi k)
def cmv (σ : SG) : Int := if ff (fun k => decide (nxt (itm σ k) = -1)) 16 = -1 then 16 else ff (fun k => decide (nxt (itm σ k) = -1)) 16
def itw (σ : SG) (p : Int) : Nat → SG
  | 0 => σ
  | k + 1 => dw (itw σ p k) p k 1
theorem inv_itw {σ : SG} (hi : Inv σ) (p : Int) : ∀ k, Inv (itw σ p k)
  | 0 => hi
  | k + 1 => inv_dw (inv_itw hi p k) p k 1
def cwv (σ : SG) (p : Int) : Int := if ff (fun k => decide (dwv (itw σ p k) p k 1 = -1)) 16 = -1 then 16 else ff (fun k => decide (dwv (itw σ p k) p k 1 = -1)) 16
theorem rem_0 (κ : KT) : k_ms (k_rem κ) 0 = k_ms κ 0 := up_n (by omega)
theorem ro_b {σ : SG} (hi : Inv σ) {p g : Int} (h : big σ p g = true) : ¬ ro σ p g = -1 := by
  have h1 := fo_rng hi p (4 * g)
  unfold ro
  rw [if_pos h]
  generalize fo σ p (4 * g) = x at h1 ⊢
  rcases (by omega : x = -1 ∨ 0 ≤ x) with rfl | h
  · decide
  · rw [Int.tdiv_eq_ediv_of_nonneg h]; omega
/-- on the copy for trials: r0 is answered, the copy is some state -/
def dx (r0 : (Option MV) ⊕ String) (κ : KT) (δ : DT) (o : DT) : (Option MV) ⊕ String → List MC → Prop := fun r w' => r = r0 ∧ ∃ τ : SG, Inv τ ∧ w' = cW (k_setms κ 1 τ) δ o
theorem dx_of {r : (Option MV) ⊕ String} {κ : KT} {δ : DT} {o : DT} {w : List MC} (hi : Inv (k_ms κ 1)) (hw : w = cW κ δ o) : dx r κ δ o r w := ⟨rfl, k_ms κ 1, hi, by rw [k_same]; exact hw⟩
theorem dx_i {z z' : Int} {κ : KT} {δ : DT} {o : DT} {w : List MC} {τ : SG} (h : z = z') (hi : Inv τ) (hw : w = cW (k_setms κ 1 τ) δ o) : dx (.inl (some (vI z'))) κ δ o (.inl (some (vI z))) w := ⟨by rw [h], τ, hi, hw⟩
theorem ms_at (κ : KT) (i : Nat) (σ : SG) : k_ms (k_setms κ i σ) i = σ := up_s (k_ms κ) i σ
theorem ms_ne (κ : KT) {i j : Nat} (σ : SG) (h : j ≠ i) : k_ms (k_setms κ i σ) j = k_ms κ j := up_n h
theorem ms_ms (κ : KT) (i : Nat) (σ τ : SG) : k_setms (k_setms κ i σ) i τ = k_setms κ i τ := by unfold k_setms; show (_, _, va_up (va_up _ _ _) _ _, _) = _; rw [up_up]
set_option maxRecDepth 20000 in
set_option maxHeartbeats 4000000 in
theorem t_X3_about {κ : KT} {δ : DT} {o : DT} (hK : KInv κ) {x : Int} (h_x : -2147483648 ≤ x ∧ x < 2147483648) : GM M_X3_about false [vR 0, vI x] (cW κ δ o) 2 12 (dq (xR (xc_ab x) (ab (k_ms κ 0) x) "java/lang/IllegalArgumentException" "java/lang/IllegalArgumentException" "java/lang/IllegalArgumentException") (cW κ δ o)) := by
  show G _ none _ _ 0 [some (vR 0), some (vI x)] [] _ _ _ _
  refine g_iload_n (i := 1) (pc := 0) dX3_about_0 rfl rfl ?_
  by_cases sw1 : 0 ≤ x ∧ x ≤ 10
  · rcases (by omega : x = 0 ∨ x = 1 ∨ x = 2 ∨ x = 3 ∨ x = 4 ∨ x = 5 ∨ x = 6 ∨ x = 7 ∨ x = 8 ∨ x = 9 ∨ x = 10) with ew1 | ew1 | ew1 | ew1 | ew1 | ew1 | ew1 | ew1 | ew1 | ew1 | ew1
    · refine g_tsIn (tgt := 60) (pc := 1) dX3_about_1 (by omega) (by omega) (by omega) (by rw [ew1]; rfl) (by decide) ?_
      refine g_aload_n (i := 0) (pc := 60) dX3_about_60 rfl rfl ?_
      refine g_getf (pc := 61) f_X3_19 dX3_about_61 (c_0) rfl ?_
      have hi := hK.2.2.1 0
      refine G.eqw c_self0 ?_
      refine g_v0 (pc := 64) okV_X1_processes rfl l_X3_86 dX3_about_64 (m_at0 c_ok0) hc_1 (by decide) (by decide) (Nat.le_of_ble_eq_true rfl) (t_X1_processes c_ok0 hi) (by simp only [m_len]) ?_
      simp only [Option.toList, List.cons_append, List.nil_append]
      refine G.eqw c_self0.symm ?_
      refine g_iret (pc := 67) rfl dX3_about_67 (fun h => h) ?_
      have h9 : xc_ab x = 0 := by
        unfold xc_ab
        rw [if_pos (by omega)]
      exact dq_0 h9 (by unfold ab; rw [if_pos (by omega)]) (rfl)
    · refine g_tsIn (tgt := 68) (pc := 1) dX3_about_1 (by omega) (by omega) (by omega) (by rw [ew1]; rfl) (by decide) ?_
      refine g_aload_n (i := 0) (pc := 68) dX3_about_68 rfl rfl ?_
      refine g_getf (pc := 69) f_X3_19 dX3_about_69 (c_0) rfl ?_
      have hi := hK.2.2.1 0
      refine G.eqw c_self0 ?_
      refine g_v0 (pc := 72) okV_X1_freeFrames rfl l_X3_89 dX3_about_72 (m_at0 c_ok0) hc_1 (by decide) (by decide) (Nat.le_of_ble_eq_true rfl) (t_X1_freeFrames c_ok0 hi) (by simp only [m_len]) ?_
      simp only [Option.toList, List.cons_append, List.nil_append]
      refine G.eqw c_self0.symm ?_
      have bb := nff_rng (k_ms (κ) 0)
      refine g_iret (pc := 75) rfl dX3_about_75 (fun h => h) ?_
      have h9 : xc_ab x = 0 := by
        unfold xc_ab
        rw [if_pos (by omega)]
      exact dq_0 h9 (by unfold ab; rw [if_neg (by omega), if_pos (by omega)]) (rfl)
    · refine g_tsIn (tgt := 76) (pc := 1) dX3_about_1 (by omega) (by omega) (by omega) (by rw [ew1]; rfl) (by decide) ?_
      refine g_aload_n (i := 0) (pc := 76) dX3_about_76 rfl rfl ?_
      refine g_getf (pc := 77) f_X3_19 dX3_about_77 (c_0) rfl ?_
      have hi := hK.2.2.1 0
      refine G.eqw c_self0 ?_
      refine g_v0 (pc := 80) okV_X1_freeRuns rfl l_X3_92 dX3_about_80 (m_at0 c_ok0) hc_1 (by decide) (by decide) (Nat.le_of_ble_eq_true rfl) (t_X1_freeRuns c_ok0 hi) (by simp only [m_len]) ?_
      simp only [Option.toList, List.cons_append, List.nil_append]
      refine G.eqw c_self0.symm ?_
      have bb := nfr_rng (k_ms (κ) 0)
      refine g_iret (pc := 83) rfl dX3_about_83 (fun h => h) ?_
      have h9 : xc_ab x = 0 := by
        unfold xc_ab
        rw [if_pos (by omega)]
      exact dq_0 h9 (by unfold ab; rw [if_neg (by omega), if_neg (by omega), if_pos (by omega)]) (rfl)
    · refine g_tsIn (tgt := 84) (pc := 1) dX3_about_1 (by omega) (by omega) (by omega) (by rw [ew1]; rfl) (by decide) ?_
      refine g_aload_n (i := 0) (pc := 84) dX3_about_84 rfl rfl ?_
      refine g_getf (pc := 85) f_X3_19 dX3_about_85 (c_0) rfl ?_
      have hi := hK.2.2.1 0
      refine G.eqw c_self0 ?_
      refine g_v0 (pc := 88) okV_X1_bigGroups rfl l_X3_95 dX3_about_88 (m_at0 c_ok0) hc_1 (by decide) (by decide) (Nat.le_of_ble_eq_true rfl) (t_X1_bigGroups c_ok0 hi) (by simp only [m_len]) ?_
      simp only [Option.toList, List.cons_append, List.nil_append]
      refine G.eqw c_self0.symm ?_
      have bb := nbg_rng (k_ms (κ) 0)
      refine g_iret (pc := 91) rfl dX3_about_91 (fun h => h) ?_
      have h9 : xc_ab x = 0 := by
        unfold xc_ab
        rw [if_pos (by omega)]
      exact dq_0 h9 (by unfold ab; rw [if_neg (by omega), if_neg (by omega), if_neg (by omega), if_pos (by omega)]) (rfl)
    · refine g_tsIn (tgt := 92) (pc := 1) dX3_about_1 (by omega) (by omega) (by omega) (by rw [ew1]; rfl) (by decide) ?_
      refine g_aload_n (i := 0) (pc := 92) dX3_about_92 rfl rfl ?_
      refine g_getf (pc := 93) f_X3_19 dX3_about_93 (c_0) rfl ?_
      have hi := hK.2.2.1 0
      refine G.eqw c_self0 ?_
      refine g_v0 (pc := 96) okV_X1_widows rfl l_X3_98 dX3_about_96 (m_at0 c_ok0) hc_1 (by decide) (by decide) (Nat.le_of_ble_eq_true rfl) (t_X1_widows c_ok0 hi) (by simp only [m_len]) ?_
      simp only [Option.toList, List.cons_append, List.nil_append]
      refine G.eqw c_self0.symm ?_
      have bb := nwid_rng (k_ms (κ) 0)
      refine g_iret (pc := 99) rfl dX3_about_99 (fun h => h) ?_
      have h9 : xc_ab x = 0 := by
        unfold xc_ab
        rw [if_pos (by omega)]
      exact dq_0 h9 (by unfold ab; rw [if_neg (by omega), if_neg (by omega), if_neg (by omega), if_neg (by omega), if_pos (by omega)]) (rfl)
    · refine g_tsIn (tgt := 100) (pc := 1) dX3_about_1 (by omega) (by omega) (by omega) (by rw [ew1]; rfl) (by decide) ?_
      refine g_aload_n (i := 0) (pc := 100) dX3_about_100 rfl rfl ?_
      refine g_getf (pc := 101) f_X3_19 dX3_about_101 (c_0) rfl ?_
      have hi := hK.2.2.1 0
      refine G.eqw c_self0 ?_
      refine g_v0 (pc := 104) okV_X1_sharedFrames rfl l_X3_101 dX3_about_104 (m_at0 c_ok0) hc_1 (by decide) (by decide) (Nat.le_of_ble_eq_true rfl) (t_X1_sharedFrames c_ok0 hi) (by simp only [m_len]) ?_
      simp only [Option.toList, List.cons_append, List.nil_append]
      refine G.eqw c_self0.symm ?_
      have bb := nsf_rng (k_ms (κ) 0)
      refine g_iret (pc := 107) rfl dX3_about_107 (fun h => h) ?_
      have h9 : xc_ab x = 0 := by
        unfold xc_ab
        rw [if_pos (by omega)]
      exact dq_0 h9 (by unfold ab; rw [if_neg (by omega), if_neg (by omega), if_neg (by omega), if_neg (by omega), if_neg (by omega), if_pos (by omega)]) (rfl)
    · refine g_tsIn (tgt := 108) (pc := 1) dX3_about_1 (by omega) (by omega) (by omega) (by rw [ew1]; rfl) (by decide) ?_
      refine g_aload_n (i := 0) (pc := 108) dX3_about_108 rfl rfl ?_
      refine g_getf (pc := 109) f_X3_19 dX3_about_109 (c_0) rfl ?_
      refine g_getf (pc := 112) f_X3_104 dX3_about_112 (c_rd0.1) rfl ?_
      refine g_iret (pc := 115) rfl dX3_about_115 (fun h => h) ?_
      have h9 : xc_ab x = 0 := by
        unfold xc_ab
        rw [if_pos (by omega)]
      exact dq_0 h9 (by unfold ab; rw [if_neg (by omega), if_neg (by omega), if_neg (by omega), if_neg (by omega), if_neg (by omega), if_neg (by omega), if_pos (by omega)]; rfl) (rfl)
    · refine g_tsIn (tgt := 116) (pc := 1) dX3_about_1 (by omega) (by omega) (by omega) (by rw [ew1]; rfl) (by decide) ?_
      refine g_aload_n (i := 0) (pc := 116) dX3_about_116 rfl rfl ?_
      refine g_getf (pc := 117) f_X3_19 dX3_about_117 (c_0) rfl ?_
      refine g_getf (pc := 120) f_X3_108 dX3_about_120 (c_rd0.1) rfl ?_
      refine g_iret (pc := 123) rfl dX3_about_123 (fun h => h) ?_
      have h9 : xc_ab x = 0 := by
        unfold xc_ab
        rw [if_pos (by omega)]
      exact dq_0 h9 (by unfold ab; rw [if_neg (by omega), if_neg (by omega), if_neg (by omega), if_neg (by omega), if_neg (by omega), if_neg (by omega), if_neg (by omega), if_pos (by omega)]; rfl) (rfl)
    · refine g_tsIn (tgt := 124) (pc := 1) dX3_about_1 (by omega) (by omega) (by omega) (by rw [ew1]; rfl) (by decide) ?_
      refine g_aload_n (i := 0) (pc := 124) dX3_about_124 rfl rfl ?_
      refine g_getf (pc := 125) f_X3_19 dX3_about_125 (c_0) rfl ?_
      refine g_getf (pc := 128) f_X3_111 dX3_about_128 (c_rd0.1) rfl ?_
      refine g_iret (pc := 131) rfl dX3_about_131 (fun h => h) ?_
      have h9 : xc_ab x = 0 := by
        unfold xc_ab
        rw [if_pos (by omega)]
      exact dq_0 h9 (by unfold ab; rw [if_neg (by omega), if_neg (by omega), if_neg (by omega), if_neg (by omega), if_neg (by omega), if_neg (by omega), if_neg (by omega), if_neg (by omega), if_pos (by omega)]; rfl) (rfl)
    · refine g_tsIn (tgt := 132) (pc := 1) dX3_about_1 (by omega) (by omega) (by omega) (by rw [ew1]; rfl) (by decide) ?_
      refine g_aload_n (i := 0) (pc := 132) dX3_about_132 rfl rfl ?_
      refine g_getf (pc := 133) f_X3_19 dX3_about_133 (c_0) rfl ?_
      refine g_getf (pc := 136) f_X3_114 dX3_about_136 (c_rd0.1) rfl ?_
      refine g_iret (pc := 139) rfl dX3_about_139 (fun h => h) ?_
      have h9 : xc_ab x = 0 := by
        unfold xc_ab
        rw [if_pos (by omega)]
      exact dq_0 h9 (by unfold ab; rw [if_neg (by omega), if_neg (by omega), if_neg (by omega), if_neg (by omega), if_neg (by omega), if_neg (by omega), if_neg (by omega), if_neg (by omega), if_neg (by omega), if_pos (by omega)]; rfl) (rfl)
    · refine g_tsIn (tgt := 140) (pc := 1) dX3_about_1 (by omega) (by omega) (by omega) (by rw [ew1]; rfl) (by decide) ?_
      refine g_aload_n (i := 0) (pc := 140) dX3_about_140 rfl rfl ?_
      refine g_getf (pc := 141) f_X3_19 dX3_about_141 (c_0) rfl ?_
      refine g_getf (pc := 144) f_X3_117 dX3_about_144 (c_rd0.1) rfl ?_
      refine G.eqS (congrArg (fun z => vI z) (show _ = s_ea (k_ms κ 0) from rfl)) ?_
      have z9 := (hK.2.2.1 0).2.2.2.2.2.2.2.2.1
      refine g_z_eq (tgt := 154) (pc := 147) dX3_about_147 (by omega) (by decide) (fun c147 => ?_) (fun c147 => ?_)
      · skip
        refine g_iconst (pc := 154) dX3_about_154 ?_
        refine g_iret (pc := 155) rfl dX3_about_155 (fun h => h) ?_
        have z9 := (hK.2.2.1 0).2.2.2.2.2.2.2.2.1
        have h9 : xc_ab x = 0 := by
          unfold xc_ab
          rw [if_pos (by omega)]
        exact dq_0 h9 (by unfold ab; rw [if_neg (by omega), if_neg (by omega), if_neg (by omega), if_neg (by omega), if_neg (by omega), if_neg (by omega), if_neg (by omega), if_neg (by omega), if_neg (by omega), if_neg (by omega)]; have e8 : (mem (k_ms κ 0)).2.2.2.2.2.1 = s_ea (k_ms κ 0) := rfl; omega) (rfl)
      · skip
        refine g_iconst (pc := 150) dX3_about_150 ?_
        refine g_goto (tgt := 155) (pc := 151) dX3_about_151 (by decide) ?_
        refine g_iret (pc := 155) rfl dX3_about_155 (fun h => h) ?_
        have z9 := (hK.2.2.1 0).2.2.2.2.2.2.2.2.1
        have h9 : xc_ab x = 0 := by
          unfold xc_ab
          rw [if_pos (by omega)]
        exact dq_0 h9 (by unfold ab; rw [if_neg (by omega), if_neg (by omega), if_neg (by omega), if_neg (by omega), if_neg (by omega), if_neg (by omega), if_neg (by omega), if_neg (by omega), if_neg (by omega), if_neg (by omega)]; have e8 : (mem (k_ms κ 0)).2.2.2.2.2.1 = s_ea (k_ms κ 0) := rfl; omega) (rfl)
  · refine g_tsOut (tgt := 156) (pc := 1) dX3_about_1 (by omega) (by omega) (by decide) ?_
    refine g_throw (pc := 156) (is := 121) (tx := "no such number of the memory") e_41_45 (by decide) rfl dX3_about_156 dX3_about_159 dX3_about_160 dX3_about_162 dX3_about_165 (by decide) (Nat.le_of_ble_eq_true rfl) (by omega) ?_
    have h9 : xc_ab x = 1 := by
      unfold xc_ab
      rw [if_neg (by omega)]
    exact dq_1 h9 (rfl)
set_option maxRecDepth 20000 in
set_option maxHeartbeats 4000000 in
theorem t_X3_page {κ : KT} {δ : DT} {o : DT} (hK : KInv κ) {p v x : Int} (h_p : -2147483648 ≤ p ∧ p < 2147483648) (h_v : -2147483648 ≤ v ∧ v < 2147483648) (h_x : -2147483648 ≤ x ∧ x < 2147483648) : GM M_X3_page false [vR 0, vI p, vI v, vI x] (cW κ δ o) 2 12 (dq (xR (xc_pg (k_ms κ 0) p v x) (pgv (k_ms κ 0) p v x) "java/lang/IndexOutOfBoundsException" "java/lang/IllegalArgumentException" "java/lang/IllegalArgumentException") (cW κ δ o)) := by
  show G _ none _ _ 0 [some (vR 0), some (vI p), some (vI v), some (vI x)] [] _ _ _ _
  refine g_aload_n (i := 0) (pc := 0) dX3_page_0 rfl rfl ?_
  refine g_iload_n (i := 1) (pc := 1) dX3_page_1 rfl rfl ?_
  refine g_iload_n (i := 2) (pc := 2) dX3_page_2 rfl rfl ?_
  refine g_callV (pc := 3) (as := [vI (p), vI (v)]) (bc' := 1) (bs' := 6) okV_X3_requirePage rfl l_X3_123 dX3_page_3 c_0 hc_3 rfl (Nat.le_of_ble_eq_true rfl) (by decide) (Nat.le_of_ble_eq_true rfl) (by omega) (t_X3_requirePage hK (by omega) (by omega)) (fun h => nomatch h) (fun r w' h => ?_) (fun E w' h => by
    obtain ⟨hq, rfl, rfl⟩ := dq_req2 h
    refine GX.out rfl ?_
    have h9 : xc_pg (k_ms κ 0) p v x = 1 := by
      unfold xc_pg
      rw [if_neg hq]
    exact dq_1 h9 (rfl))
  obtain ⟨hq, rfl, rfl⟩ := dq_req1 h
  simp only [Option.toList, List.cons_append, List.nil_append]
  obtain ⟨⟨h_p1, h_p2, h_e⟩, h_v1, h_v2⟩ := ex_pg hq
  refine g_iload_n (i := 3) (pc := 6) dX3_page_6 rfl rfl ?_
  by_cases sw7 : 0 ≤ x ∧ x ≤ 3
  · rcases (by omega : x = 0 ∨ x = 1 ∨ x = 2 ∨ x = 3) with ew7 | ew7 | ew7 | ew7
    · refine g_tsIn (tgt := 36) (pc := 7) dX3_page_7 (by omega) (by omega) (by omega) (by rw [ew7]; rfl) (by decide) ?_
      refine g_aload_n (i := 0) (pc := 36) dX3_page_36 rfl rfl ?_
      refine g_getf (pc := 37) f_X3_19 dX3_page_37 (c_0) rfl ?_
      refine g_iload_n (i := 1) (pc := 40) dX3_page_40 rfl rfl ?_
      refine g_iload_n (i := 2) (pc := 41) dX3_page_41 rfl rfl ?_
      have hi := hK.2.2.1 0
      refine G.eqw c_self0 ?_
      refine g_v2 (pc := 42) okV_X1_frameOf rfl l_X3_127 dX3_page_42 (m_at0 c_ok0) hc_1 (by decide) (by decide) (Nat.le_of_ble_eq_true rfl) (t_X1_frameOf c_ok0 hi (by omega) (by omega)) (by simp only [m_len]) ?_
      simp only [Option.toList, List.cons_append, List.nil_append]
      refine G.eqw c_self0.symm ?_
      have bb := fo_rng hi (p) (v)
      refine g_iret (pc := 45) rfl dX3_page_45 (fun h => h) ?_
      have h9 : xc_pg (k_ms κ 0) p v x = 0 := by
        unfold xc_pg
        rw [if_pos hq, if_pos (by omega)]
      exact dq_0 h9 (by unfold pgv; rw [if_pos (by omega)]) (rfl)
    · refine g_tsIn (tgt := 46) (pc := 7) dX3_page_7 (by omega) (by omega) (by omega) (by rw [ew7]; rfl) (by decide) ?_
      refine g_aload_n (i := 0) (pc := 46) dX3_page_46 rfl rfl ?_
      refine g_getf (pc := 47) f_X3_19 dX3_page_47 (c_0) rfl ?_
      refine g_iload_n (i := 1) (pc := 50) dX3_page_50 rfl rfl ?_
      refine g_iload_n (i := 2) (pc := 51) dX3_page_51 rfl rfl ?_
      have hi := hK.2.2.1 0
      refine G.eqw c_self0 ?_
      refine g_v2 (pc := 52) okV_X1_valueOf rfl l_X3_131 dX3_page_52 (m_at0 c_ok0) hc_1 (by decide) (by decide) (Nat.le_of_ble_eq_true rfl) (t_X1_valueOf c_ok0 hi (by omega) (by omega)) (by simp only [m_len]) ?_
      simp only [Option.toList, List.cons_append, List.nil_append]
      refine G.eqw c_self0.symm ?_
      have bb := vo_rng hi (p) (v)
      refine g_iret (pc := 55) rfl dX3_page_55 (fun h => h) ?_
      have h9 : xc_pg (k_ms κ 0) p v x = 0 := by
        unfold xc_pg
        rw [if_pos hq, if_pos (by omega)]
      exact dq_0 h9 (by unfold pgv; rw [if_neg (by omega), if_pos (by omega)]) (rfl)
    · refine g_tsIn (tgt := 56) (pc := 7) dX3_page_7 (by omega) (by omega) (by omega) (by rw [ew7]; rfl) (by decide) ?_
      refine g_aload_n (i := 0) (pc := 56) dX3_page_56 rfl rfl ?_
      refine g_getf (pc := 57) f_X3_19 dX3_page_57 (c_0) rfl ?_
      refine g_iload_n (i := 1) (pc := 60) dX3_page_60 rfl rfl ?_
      refine g_iload_n (i := 2) (pc := 61) dX3_page_61 rfl rfl ?_
      have hi := hK.2.2.1 0
      refine G.eqw c_self0 ?_
      refine g_v2 (pc := 62) okV_X1_usersOfFrameOf rfl l_X3_134 dX3_page_62 (m_at0 c_ok0) hc_1 (by decide) (by decide) (Nat.le_of_ble_eq_true rfl) (t_X1_usersOfFrameOf c_ok0 hi (by omega) (by omega)) (by simp only [m_len]) ?_
      simp only [Option.toList, List.cons_append, List.nil_append]
      refine G.eqw c_self0.symm ?_
      have bb := uo_rng (k_ms (κ) 0) (p) (v)
      refine g_iret (pc := 65) rfl dX3_page_65 (fun h => h) ?_
      have h9 : xc_pg (k_ms κ 0) p v x = 0 := by
        unfold xc_pg
        rw [if_pos hq, if_pos (by omega)]
      exact dq_0 h9 (by unfold pgv; rw [if_neg (by omega), if_neg (by omega), if_pos (by omega)]) (rfl)
    · refine g_tsIn (tgt := 66) (pc := 7) dX3_page_7 (by omega) (by omega) (by omega) (by rw [ew7]; rfl) (by decide) ?_
      refine g_aload_n (i := 0) (pc := 66) dX3_page_66 rfl rfl ?_
      refine g_getf (pc := 67) f_X3_19 dX3_page_67 (c_0) rfl ?_
      refine g_iload_n (i := 1) (pc := 70) dX3_page_70 rfl rfl ?_
      refine g_iload_n (i := 2) (pc := 71) dX3_page_71 rfl rfl ?_
      refine g_iconst (pc := 72) dX3_page_72 ?_
      have d9 := Int.tdiv_eq_ediv_of_nonneg (a := v) (b := 4) (by omega)
      refine g_idiv (pc := 73) dX3_page_73 (by omega) (by omega) ?_
      have hi := hK.2.2.1 0
      refine G.eqw c_self0 ?_
      refine g_v2 (pc := 74) okV_X1_isBig rfl l_X3_137 dX3_page_74 (m_at0 c_ok0) hc_1 (by decide) (by decide) (Nat.le_of_ble_eq_true rfl) (t_X1_isBig c_ok0 hi (by omega) (by omega)) (by simp only [m_len]) ?_
      simp only [Option.toList, List.cons_append, List.nil_append]
      refine G.eqw c_self0.symm ?_
      have bb := b2_rng (big (k_ms (κ) 0) (p) ((Int.tdiv v 4)))
      refine g_z_eq (tgt := 84) (pc := 77) dX3_page_77 (by omega) (by decide) (fun c77 => ?_) (fun c77 => ?_)
      · skip
        refine g_iconst (pc := 84) dX3_page_84 ?_
        refine g_iret (pc := 85) rfl dX3_page_85 (fun h => h) ?_
        have h9 : xc_pg (k_ms κ 0) p v x = 0 := by
          unfold xc_pg
          rw [if_pos hq, if_pos (by omega)]
        exact dq_0 h9 (by unfold pgv; rw [if_neg (by omega), if_neg (by omega), if_neg (by omega)]; omega) (rfl)
      · skip
        refine g_iconst (pc := 80) dX3_page_80 ?_
        refine g_goto (tgt := 85) (pc := 81) dX3_page_81 (by decide) ?_
        refine g_iret (pc := 85) rfl dX3_page_85 (fun h => h) ?_
        have h9 : xc_pg (k_ms κ 0) p v x = 0 := by
          unfold xc_pg
          rw [if_pos hq, if_pos (by omega)]
        exact dq_0 h9 (by unfold pgv; rw [if_neg (by omega), if_neg (by omega), if_neg (by omega)]; omega) (rfl)
  · refine g_tsOut (tgt := 86) (pc := 7) dX3_page_7 (by omega) (by omega) (by decide) ?_
    refine g_throw (pc := 86) (is := 141) (tx := "no such number of a page") e_41_45 (by decide) rfl dX3_page_86 dX3_page_89 dX3_page_90 dX3_page_92 dX3_page_95 (by decide) (Nat.le_of_ble_eq_true rfl) (by omega) ?_
    have h9 : xc_pg (k_ms κ 0) p v x = 2 := by
      unfold xc_pg
      rw [if_pos hq, if_neg (by omega)]
    exact dq_2 h9 (rfl)
set_option maxRecDepth 20000 in
set_option maxHeartbeats 4000000 in
theorem t_X3_user {κ : KT} {δ : DT} {o : DT} (hK : KInv κ) {f i : Int} (h_f : -2147483648 ≤ f ∧ f < 2147483648) (h_i : -2147483648 ≤ i ∧ i < 2147483648) : GM M_X3_user false [vR 0, vI f, vI i] (cW κ δ o) 2 12 (dq (xR (xc_us f i) (uat (k_ms κ 0) f i) "java/lang/IndexOutOfBoundsException" "java/lang/IllegalArgumentException" "java/lang/IllegalArgumentException") (cW κ δ o)) := by
  show G _ none _ _ 0 [some (vR 0), some (vI f), some (vI i)] [] _ _ _ _
  refine g_iload_n (i := 1) (pc := 0) dX3_user_0 rfl rfl ?_
  refine g_z_lt (tgt := 10) (pc := 1) dX3_user_1 (by omega) (by decide) (fun c1 => ?_) (fun c1 => ?_)
  · skip
    refine g_throw (pc := 10) (is := 145) (tx := "no such frame") e_143_147 (by decide) rfl dX3_user_10 dX3_user_13 dX3_user_14 dX3_user_16 dX3_user_19 (by decide) (Nat.le_of_ble_eq_true rfl) (by omega) ?_
    have h9 : xc_us f i = 1 := by
      unfold xc_us
      rw [if_pos (by omega)]
    exact dq_1 h9 (rfl)
  · skip
    refine g_iload_n (i := 1) (pc := 4) dX3_user_4 rfl rfl ?_
    refine g_bipush (pc := 5) dX3_user_5 (by decide) ?_
    refine g_c_lt (tgt := 20) (pc := 7) dX3_user_7 (by omega) (by decide) (fun c7 => ?_) (fun c7 => ?_)
    · skip
      refine g_iload_n (i := 2) (pc := 20) dX3_user_20 rfl rfl ?_
      refine g_z_ge (tgt := 34) (pc := 21) dX3_user_21 (by omega) (by decide) (fun c21 => ?_) (fun c21 => ?_)
      · skip
        refine g_aload_n (i := 0) (pc := 34) dX3_user_34 rfl rfl ?_
        refine g_getf (pc := 35) f_X3_19 dX3_user_35 (c_0) rfl ?_
        refine g_iload_n (i := 1) (pc := 38) dX3_user_38 rfl rfl ?_
        refine g_iload_n (i := 2) (pc := 39) dX3_user_39 rfl rfl ?_
        have hi := hK.2.2.1 0
        refine G.eqw c_self0 ?_
        refine g_v2 (pc := 40) okV_X1_userAt rfl l_X3_150 dX3_user_40 (m_at0 c_ok0) hc_1 (by decide) (by decide) (Nat.le_of_ble_eq_true rfl) (t_X1_userAt c_ok0 hi (by omega) (by omega)) (by simp only [m_len]) ?_
        simp only [Option.toList, List.cons_append, List.nil_append]
        refine G.eqw c_self0.symm ?_
        refine g_iret (pc := 43) rfl dX3_user_43 (fun h => h) ?_
        have h9 : xc_us f i = 0 := by
          unfold xc_us
          rw [if_neg (by omega), if_neg (by omega)]
        exact dq_0 h9 (rfl) (rfl)
      · skip
        refine g_throw (pc := 24) (is := 148) (tx := "no such place") e_41_45 (by decide) rfl dX3_user_24 dX3_user_27 dX3_user_28 dX3_user_30 dX3_user_33 (by decide) (Nat.le_of_ble_eq_true rfl) (by omega) ?_
        have h9 : xc_us f i = 2 := by
          unfold xc_us
          rw [if_neg (by omega), if_pos (by omega)]
        exact dq_2 h9 (rfl)
    · skip
      refine g_throw (pc := 10) (is := 145) (tx := "no such frame") e_143_147 (by decide) rfl dX3_user_10 dX3_user_13 dX3_user_14 dX3_user_16 dX3_user_19 (by decide) (Nat.le_of_ble_eq_true rfl) (by omega) ?_
      have h9 : xc_us f i = 1 := by
        unfold xc_us
        rw [if_pos (by omega)]
      exact dq_1 h9 (rfl)
set_option maxRecDepth 20000 in
set_option maxHeartbeats 4000000 in
theorem t_X3_group {κ : KT} {δ : DT} {o : DT} (hK : KInv κ) {p g x : Int} (h_p : -2147483648 ≤ p ∧ p < 2147483648) (h_g : -2147483648 ≤ g ∧ g < 2147483648) (h_x : -2147483648 ≤ x ∧ x < 2147483648) : GM M_X3_group false [vR 0, vI p, vI g, vI x] (cW κ δ o) 2 12 (dq (xR (xc_gr (k_ms κ 0) p g x) (grv (k_ms κ 0) p g x) "java/lang/IndexOutOfBoundsException" "java/lang/IllegalArgumentException" "java/lang/IllegalArgumentException") (cW κ δ o)) := by
  show G _ none _ _ 0 [some (vR 0), some (vI p), some (vI g), some (vI x)] [] _ _ _ _
  refine g_aload_n (i := 0) (pc := 0) dX3_group_0 rfl rfl ?_
  refine g_iload_n (i := 1) (pc := 1) dX3_group_1 rfl rfl ?_
  refine g_iload_n (i := 2) (pc := 2) dX3_group_2 rfl rfl ?_
  refine g_callV (pc := 3) (as := [vI (p), vI (g)]) (bc' := 1) (bs' := 6) okV_X3_requireGroup rfl l_X3_153 dX3_group_3 c_0 hc_3 rfl (Nat.le_of_ble_eq_true rfl) (by decide) (Nat.le_of_ble_eq_true rfl) (by omega) (t_X3_requireGroup hK (by omega) (by omega)) (fun h => nomatch h) (fun r w' h => ?_) (fun E w' h => by
    obtain ⟨hq, rfl, rfl⟩ := dq_req2 h
    refine GX.out rfl ?_
    have h9 : xc_gr (k_ms κ 0) p g x = 1 := by
      unfold xc_gr
      rw [if_neg hq]
    exact dq_1 h9 (rfl))
  obtain ⟨hq, rfl, rfl⟩ := dq_req1 h
  simp only [Option.toList, List.cons_append, List.nil_append]
  obtain ⟨⟨h_p1, h_p2, h_e⟩, h_g1, h_g2⟩ := ex_gr hq
  refine g_iload_n (i := 3) (pc := 6) dX3_group_6 rfl rfl ?_
  by_cases sw7 : 0 ≤ x ∧ x ≤ 4
  · rcases (by omega : x = 0 ∨ x = 1 ∨ x = 2 ∨ x = 3 ∨ x = 4) with ew7 | ew7 | ew7 | ew7 | ew7
    · refine g_tsIn (tgt := 40) (pc := 7) dX3_group_7 (by omega) (by omega) (by omega) (by rw [ew7]; rfl) (by decide) ?_
      refine g_aload_n (i := 0) (pc := 40) dX3_group_40 rfl rfl ?_
      refine g_getf (pc := 41) f_X3_19 dX3_group_41 (c_0) rfl ?_
      refine g_iload_n (i := 1) (pc := 44) dX3_group_44 rfl rfl ?_
      refine g_iload_n (i := 2) (pc := 45) dX3_group_45 rfl rfl ?_
      have hi := hK.2.2.1 0
      refine G.eqw c_self0 ?_
      refine g_v2 (pc := 46) okV_X1_pagesWithFrame rfl l_X3_156 dX3_group_46 (m_at0 c_ok0) hc_1 (by decide) (by decide) (Nat.le_of_ble_eq_true rfl) (t_X1_pagesWithFrame c_ok0 hi (by omega) (by omega)) (by simp only [m_len]) ?_
      simp only [Option.toList, List.cons_append, List.nil_append]
      refine G.eqw c_self0.symm ?_
      have bb := pf_rng (k_ms (κ) 0) (p) (g)
      refine g_iret (pc := 49) rfl dX3_group_49 (fun h => h) ?_
      have h9 : xc_gr (k_ms κ 0) p g x = 0 := by
        unfold xc_gr
        rw [if_pos hq, if_pos (by omega)]
      exact dq_0 h9 (by unfold grv; rw [if_pos (by omega)]) (rfl)
    · refine g_tsIn (tgt := 50) (pc := 7) dX3_group_7 (by omega) (by omega) (by omega) (by rw [ew7]; rfl) (by decide) ?_
      refine g_aload_n (i := 0) (pc := 50) dX3_group_50 rfl rfl ?_
      refine g_getf (pc := 51) f_X3_19 dX3_group_51 (c_0) rfl ?_
      refine g_iload_n (i := 1) (pc := 54) dX3_group_54 rfl rfl ?_
      refine g_iload_n (i := 2) (pc := 55) dX3_group_55 rfl rfl ?_
      have hi := hK.2.2.1 0
      refine G.eqw c_self0 ?_
      refine g_v2 (pc := 56) okV_X1_isBig rfl l_X3_137 dX3_group_56 (m_at0 c_ok0) hc_1 (by decide) (by decide) (Nat.le_of_ble_eq_true rfl) (t_X1_isBig c_ok0 hi (by omega) (by omega)) (by simp only [m_len]) ?_
      simp only [Option.toList, List.cons_append, List.nil_append]
      refine G.eqw c_self0.symm ?_
      have bb := b2_rng (big (k_ms (κ) 0) (p) (g))
      refine g_z_eq (tgt := 66) (pc := 59) dX3_group_59 (by omega) (by decide) (fun c59 => ?_) (fun c59 => ?_)
      · skip
        refine g_iconst (pc := 66) dX3_group_66 ?_
        refine g_iret (pc := 67) rfl dX3_group_67 (fun h => h) ?_
        have h9 : xc_gr (k_ms κ 0) p g x = 0 := by
          unfold xc_gr
          rw [if_pos hq, if_pos (by omega)]
        exact dq_0 h9 (by unfold grv; rw [if_neg (by omega), if_pos (by omega)]; omega) (rfl)
      · skip
        refine g_iconst (pc := 62) dX3_group_62 ?_
        refine g_goto (tgt := 67) (pc := 63) dX3_group_63 (by decide) ?_
        refine g_iret (pc := 67) rfl dX3_group_67 (fun h => h) ?_
        have h9 : xc_gr (k_ms κ 0) p g x = 0 := by
          unfold xc_gr
          rw [if_pos hq, if_pos (by omega)]
        exact dq_0 h9 (by unfold grv; rw [if_neg (by omega), if_pos (by omega)]; omega) (rfl)
    · refine g_tsIn (tgt := 68) (pc := 7) dX3_group_7 (by omega) (by omega) (by omega) (by rw [ew7]; rfl) (by decide) ?_
      refine g_aload_n (i := 0) (pc := 68) dX3_group_68 rfl rfl ?_
      refine g_getf (pc := 69) f_X3_19 dX3_group_69 (c_0) rfl ?_
      refine g_iload_n (i := 1) (pc := 72) dX3_group_72 rfl rfl ?_
      refine g_iload_n (i := 2) (pc := 73) dX3_group_73 rfl rfl ?_
      have hi := hK.2.2.1 0
      refine G.eqw c_self0 ?_
      refine g_v2 (pc := 74) okV_X1_isWidow rfl l_X3_159 dX3_group_74 (m_at0 c_ok0) hc_1 (by decide) (by decide) (Nat.le_of_ble_eq_true rfl) (t_X1_isWidow c_ok0 hi (by omega) (by omega)) (by simp only [m_len]) ?_
      simp only [Option.toList, List.cons_append, List.nil_append]
      refine G.eqw c_self0.symm ?_
      have bb := b2_rng (wid (k_ms (κ) 0) (p) (g))
      refine g_z_eq (tgt := 84) (pc := 77) dX3_group_77 (by omega) (by decide) (fun c77 => ?_) (fun c77 => ?_)
      · skip
        refine g_iconst (pc := 84) dX3_group_84 ?_
        refine g_iret (pc := 85) rfl dX3_group_85 (fun h => h) ?_
        have h9 : xc_gr (k_ms κ 0) p g x = 0 := by
          unfold xc_gr
          rw [if_pos hq, if_pos (by omega)]
        exact dq_0 h9 (by unfold grv; rw [if_neg (by omega), if_neg (by omega), if_pos (by omega)]; omega) (rfl)
      · skip
        refine g_iconst (pc := 80) dX3_group_80 ?_
        refine g_goto (tgt := 85) (pc := 81) dX3_group_81 (by decide) ?_
        refine g_iret (pc := 85) rfl dX3_group_85 (fun h => h) ?_
        have h9 : xc_gr (k_ms κ 0) p g x = 0 := by
          unfold xc_gr
          rw [if_pos hq, if_pos (by omega)]
        exact dq_0 h9 (by unfold grv; rw [if_neg (by omega), if_neg (by omega), if_pos (by omega)]; omega) (rfl)
    · refine g_tsIn (tgt := 86) (pc := 7) dX3_group_7 (by omega) (by omega) (by omega) (by rw [ew7]; rfl) (by decide) ?_
      refine g_aload_n (i := 0) (pc := 86) dX3_group_86 rfl rfl ?_
      refine g_getf (pc := 87) f_X3_19 dX3_group_87 (c_0) rfl ?_
      refine g_iload_n (i := 1) (pc := 90) dX3_group_90 rfl rfl ?_
      refine g_iload_n (i := 2) (pc := 91) dX3_group_91 rfl rfl ?_
      have hi := hK.2.2.1 0
      refine G.eqw c_self0 ?_
      refine g_v2 (pc := 92) okV_X1_pagesWithSharedFrame rfl l_X3_162 dX3_group_92 (m_at0 c_ok0) hc_1 (by decide) (by decide) (Nat.le_of_ble_eq_true rfl) (t_X1_pagesWithSharedFrame c_ok0 hi (by omega) (by omega)) (by simp only [m_len]) ?_
      simp only [Option.toList, List.cons_append, List.nil_append]
      refine G.eqw c_self0.symm ?_
      have bb := ps_rng (k_ms (κ) 0) (p) (g)
      refine g_iret (pc := 95) rfl dX3_group_95 (fun h => h) ?_
      have h9 : xc_gr (k_ms κ 0) p g x = 0 := by
        unfold xc_gr
        rw [if_pos hq, if_pos (by omega)]
      exact dq_0 h9 (by unfold grv; rw [if_neg (by omega), if_neg (by omega), if_neg (by omega), if_pos (by omega)]) (rfl)
    · refine g_tsIn (tgt := 96) (pc := 7) dX3_group_7 (by omega) (by omega) (by omega) (by rw [ew7]; rfl) (by decide) ?_
      refine g_aload_n (i := 0) (pc := 96) dX3_group_96 rfl rfl ?_
      refine g_getf (pc := 97) f_X3_19 dX3_group_97 (c_0) rfl ?_
      refine g_iload_n (i := 1) (pc := 100) dX3_group_100 rfl rfl ?_
      refine g_iload_n (i := 2) (pc := 101) dX3_group_101 rfl rfl ?_
      have hi := hK.2.2.1 0
      refine G.eqw c_self0 ?_
      refine g_v2 (pc := 102) okV_X1_runOf rfl l_X3_165 dX3_group_102 (m_at0 c_ok0) hc_1 (by decide) (by decide) (Nat.le_of_ble_eq_true rfl) (t_X1_runOf c_ok0 hi (by omega) (by omega)) (by simp only [m_len]) ?_
      simp only [Option.toList, List.cons_append, List.nil_append]
      refine G.eqw c_self0.symm ?_
      have bb := ro_rng hi (p) (g)
      refine g_iret (pc := 105) rfl dX3_group_105 (fun h => h) ?_
      have h9 : xc_gr (k_ms κ 0) p g x = 0 := by
        unfold xc_gr
        rw [if_pos hq, if_pos (by omega)]
      exact dq_0 h9 (by unfold grv; rw [if_neg (by omega), if_neg (by omega), if_neg (by omega), if_neg (by omega)]) (rfl)
  · refine g_tsOut (tgt := 106) (pc := 7) dX3_group_7 (by omega) (by omega) (by decide) ?_
    refine g_throw (pc := 106) (is := 168) (tx := "no such number of a group") e_41_45 (by decide) rfl dX3_group_106 dX3_group_109 dX3_group_110 dX3_group_112 dX3_group_115 (by decide) (Nat.le_of_ble_eq_true rfl) (by omega) ?_
    have h9 : xc_gr (k_ms κ 0) p g x = 2 := by
      unfold xc_gr
      rw [if_pos hq, if_neg (by omega)]
    exact dq_2 h9 (rfl)
set_option maxRecDepth 20000 in
set_option maxHeartbeats 4000000 in
theorem t_X3_write {κ : KT} {δ : DT} {o : DT} (hK : KInv κ) {p v x : Int} (h_p : -2147483648 ≤ p ∧ p < 2147483648) (h_v : -2147483648 ≤ v ∧ v < 2147483648) (h_x : -2147483648 ≤ x ∧ x < 2147483648) : GM M_X3_write false [vR 0, vI p, vI v, vI x] (cW κ δ o) 2 12 (dq (xR (xc_wr (k_ms κ 0) p v x) (oc (k_ms κ 0) p v) "java/lang/IndexOutOfBoundsException" "java/lang/IllegalArgumentException" "java/lang/IllegalStateException") (cW (if xc_wr (k_ms κ 0) p v x = 0 then k_setms (k_rem κ) 0 (s_wri (k_ms κ 0) p v x) else κ) δ o)) := by
  show G _ none _ _ 0 [some (vR 0), some (vI p), some (vI v), some (vI x)] [] _ _ _ _
  refine g_aload_n (i := 0) (pc := 0) dX3_write_0 rfl rfl ?_
  refine g_iload_n (i := 1) (pc := 1) dX3_write_1 rfl rfl ?_
  refine g_iload_n (i := 2) (pc := 2) dX3_write_2 rfl rfl ?_
  refine g_callV (pc := 3) (as := [vI (p), vI (v)]) (bc' := 1) (bs' := 6) okV_X3_requirePage rfl l_X3_123 dX3_write_3 c_0 hc_3 rfl (Nat.le_of_ble_eq_true rfl) (by decide) (Nat.le_of_ble_eq_true rfl) (by omega) (t_X3_requirePage hK (by omega) (by omega)) (fun h => nomatch h) (fun r w' h => ?_) (fun E w' h => by
    obtain ⟨hq, rfl, rfl⟩ := dq_req2 h
    refine GX.out rfl ?_
    have h9 : xc_wr (k_ms κ 0) p v x = 1 := by
      unfold xc_wr
      rw [if_neg hq]
    exact dq_1 h9 (by rw [if_neg (by rw [h9]; decide)]))
  obtain ⟨hq, rfl, rfl⟩ := dq_req1 h
  simp only [Option.toList, List.cons_append, List.nil_append]
  obtain ⟨⟨h_p1, h_p2, h_e⟩, h_v1, h_v2⟩ := ex_pg hq
  refine g_iload_n (i := 3) (pc := 6) dX3_write_6 rfl rfl ?_
  refine g_z_lt (tgt := 16) (pc := 7) dX3_write_7 (by omega) (by decide) (fun c7 => ?_) (fun c7 => ?_)
  · skip
    refine g_throw (pc := 16) (is := 170) (tx := "no such value") e_41_45 (by decide) rfl dX3_write_16 dX3_write_19 dX3_write_20 dX3_write_22 dX3_write_25 (by decide) (Nat.le_of_ble_eq_true rfl) (by omega) ?_
    have h9 : xc_wr (k_ms κ 0) p v x = 2 := by
      unfold xc_wr
      rw [if_pos hq, if_pos (by omega)]
    exact dq_2 h9 (by rw [if_neg (by rw [h9]; decide)])
  · skip
    refine g_iload_n (i := 3) (pc := 10) dX3_write_10 rfl rfl ?_
    refine g_bipush (pc := 11) dX3_write_11 (by decide) ?_
    refine g_c_lt (tgt := 26) (pc := 13) dX3_write_13 (by omega) (by decide) (fun c13 => ?_) (fun c13 => ?_)
    · skip
      refine g_aload_n (i := 0) (pc := 26) dX3_write_26 rfl rfl ?_
      refine g_getf (pc := 27) f_X3_19 dX3_write_27 (c_0) rfl ?_
      refine g_iload_n (i := 1) (pc := 30) dX3_write_30 rfl rfl ?_
      refine g_iload_n (i := 2) (pc := 31) dX3_write_31 rfl rfl ?_
      have hi := hK.2.2.1 0
      refine G.eqw c_self0 ?_
      refine g_v2 (pc := 32) okV_X1_outcomeOfWrite rfl l_X3_172 dX3_write_32 (m_at0 c_ok0) hc_1 (by decide) (by decide) (Nat.le_of_ble_eq_true rfl) (t_X1_outcomeOfWrite c_ok0 hi (by omega) (by omega)) (by simp only [m_len]) ?_
      simp only [Option.toList, List.cons_append, List.nil_append]
      refine G.eqw c_self0.symm ?_
      have bb := oc_rng (k_ms (κ) 0) (p) (v)
      refine g_iconst (pc := 35) dX3_write_35 ?_
      refine g_c_ne (tgt := 49) (pc := 36) dX3_write_36 (by omega) (by decide) (fun c36 => ?_) (fun c36 => ?_)
      · skip
        refine g_aload_n (i := 0) (pc := 49) dX3_write_49 rfl rfl ?_
        refine g_getf (pc := 50) f_X3_29 dX3_write_50 (c_0) rfl ?_
        refine g_aload_n (i := 0) (pc := 53) dX3_write_53 rfl rfl ?_
        refine g_getf (pc := 54) f_X3_19 dX3_write_54 (c_0) rfl ?_
        refine g_vr (pc := 57) okV_X0_remember rfl l_X3_177 dX3_write_57 c_11 hc_0 (by decide) (by decide) (Nat.le_of_ble_eq_true rfl) (t_X0_remember hK) (by rw [c_len, c_len]) ?_
        simp only [Option.toList, List.cons_append, List.nil_append]
        have hK0 := hK
        have hK := kinv_rem hK
        refine g_aload_n (i := 0) (pc := 60) dX3_write_60 rfl rfl ?_
        refine g_getf (pc := 61) f_X3_19 dX3_write_61 (c_0) rfl ?_
        refine g_iload_n (i := 1) (pc := 64) dX3_write_64 rfl rfl ?_
        refine g_iload_n (i := 2) (pc := 65) dX3_write_65 rfl rfl ?_
        refine g_iload_n (i := 3) (pc := 66) dX3_write_66 rfl rfl ?_
        have hi := hK.2.2.1 0
        refine G.eqw c_self0 ?_
        refine g_v3 (pc := 67) okV_X1_doWrite rfl l_X3_181 dX3_write_67 (m_at0 c_ok0) hc_1 (by decide) (by decide) (Nat.le_of_ble_eq_true rfl) (t_X1_doWrite c_ok0 hi (by omega) (by omega) (by omega)) (by simp only [m_len]) ?_
        simp only [Option.toList, List.cons_append, List.nil_append]
        refine G.eqw (c_mem0 (σ := dw (k_ms (k_rem (κ)) 0) (p) (v) (x))) ?_
        refine G.eqS (v' := vI (dwv (k_ms (k_rem (κ)) 0) (p) (v) (x))) rfl ?_
        have bb := dwv_rng (k_ms (k_rem (κ)) 0) (p) (v) (x)
        have hK := kinv_ms (i := 0) hK (inv_dw hi (p) (v) (x))
        refine g_iret (pc := 70) rfl dX3_write_70 (fun h => h) ?_
        have h9 : xc_wr (k_ms κ 0) p v x = 0 := by
          unfold xc_wr
          rw [if_pos hq, if_neg (by omega), if_neg (by omega)]
        exact dq_0 h9 (by rw [rem_0]; unfold dwv; rw [if_neg (by omega)]) (by rw [if_pos h9];  rw [rem_0]; unfold dw; rw [if_neg (by omega)])
      · skip
        refine g_throw (pc := 39) (is := 175) (tx := "no frame is free") e_52_56 (by decide) rfl dX3_write_39 dX3_write_42 dX3_write_43 dX3_write_45 dX3_write_48 (by decide) (Nat.le_of_ble_eq_true rfl) (by omega) ?_
        have h9 : xc_wr (k_ms κ 0) p v x = 3 := by
          unfold xc_wr
          rw [if_pos hq, if_neg (by omega), if_pos (by omega)]
        exact dq_3 h9 (by rw [if_neg (by rw [h9]; decide)])
    · skip
      refine g_throw (pc := 16) (is := 170) (tx := "no such value") e_41_45 (by decide) rfl dX3_write_16 dX3_write_19 dX3_write_20 dX3_write_22 dX3_write_25 (by decide) (Nat.le_of_ble_eq_true rfl) (by omega) ?_
      have h9 : xc_wr (k_ms κ 0) p v x = 2 := by
        unfold xc_wr
        rw [if_pos hq, if_pos (by omega)]
      exact dq_2 h9 (by rw [if_neg (by rw [h9]; decide)])
set_option maxRecDepth 20000 in
set_option maxHeartbeats 4000000 in
theorem t_X3_fork {κ : KT} {δ : DT} {o : DT} (hK : KInv κ) {p : Int} (h_p : -2147483648 ≤ p ∧ p < 2147483648) : GM M_X3_fork false [vR 0, vI p] (cW κ δ o) 2 12 (dq (xR (xc_fk (k_ms κ 0) p) (lup (k_ms κ 0)) "java/lang/IndexOutOfBoundsException" "java/lang/IllegalStateException" "java/lang/IllegalStateException") (cW (if xc_fk (k_ms κ 0) p = 0 then k_setms (k_rem κ) 0 (s_for (k_ms κ 0) p) else κ) δ o)) := by
  show G _ none _ _ 0 [some (vR 0), some (vI p)] [] _ _ _ _
  refine g_aload_n (i := 0) (pc := 0) dX3_fork_0 rfl rfl ?_
  refine g_iload_n (i := 1) (pc := 1) dX3_fork_1 rfl rfl ?_
  refine g_callV (pc := 2) (as := [vI (p)]) (bc' := 1) (bs' := 6) okV_X3_requireProcess rfl l_X3_185 dX3_fork_2 c_0 hc_3 rfl (Nat.le_of_ble_eq_true rfl) (by decide) (Nat.le_of_ble_eq_true rfl) (by omega) (t_X3_requireProcess hK (by omega)) (fun h => nomatch h) (fun r w' h => ?_) (fun E w' h => by
    obtain ⟨hq, rfl, rfl⟩ := dq_req2 h
    refine GX.out rfl ?_
    have h9 : xc_fk (k_ms κ 0) p = 1 := by
      unfold xc_fk
      rw [if_neg hq]
    exact dq_1 h9 (by rw [if_neg (by rw [h9]; decide)]))
  obtain ⟨hq, rfl, rfl⟩ := dq_req1 h
  simp only [Option.toList, List.cons_append, List.nil_append]
  refine g_aload_n (i := 0) (pc := 5) dX3_fork_5 rfl rfl ?_
  refine g_getf (pc := 6) f_X3_19 dX3_fork_6 (c_0) rfl ?_
  refine g_iload_n (i := 1) (pc := 9) dX3_fork_9 rfl rfl ?_
  have hi := hK.2.2.1 0
  refine G.eqw c_self0 ?_
  refine g_v1 (pc := 10) okV_X1_canFork rfl l_X3_189 dX3_fork_10 (m_at0 c_ok0) hc_1 (by decide) (by decide) (Nat.le_of_ble_eq_true rfl) (t_X1_canFork c_ok0 hi (by omega)) (by simp only [m_len]) ?_
  simp only [Option.toList, List.cons_append, List.nil_append]
  refine G.eqw c_self0.symm ?_
  have bb := b2_rng (canF (k_ms (κ) 0) (p))
  refine g_z_ne (tgt := 26) (pc := 13) dX3_fork_13 (by omega) (by decide) (fun c13 => ?_) (fun c13 => ?_)
  · skip
    refine g_aload_n (i := 0) (pc := 26) dX3_fork_26 rfl rfl ?_
    refine g_getf (pc := 27) f_X3_29 dX3_fork_27 (c_0) rfl ?_
    refine g_aload_n (i := 0) (pc := 30) dX3_fork_30 rfl rfl ?_
    refine g_getf (pc := 31) f_X3_19 dX3_fork_31 (c_0) rfl ?_
    refine g_vr (pc := 34) okV_X0_remember rfl l_X3_177 dX3_fork_34 c_11 hc_0 (by decide) (by decide) (Nat.le_of_ble_eq_true rfl) (t_X0_remember hK) (by rw [c_len, c_len]) ?_
    simp only [Option.toList, List.cons_append, List.nil_append]
    have hK0 := hK
    have hK := kinv_rem hK
    refine g_aload_n (i := 0) (pc := 37) dX3_fork_37 rfl rfl ?_
    refine g_getf (pc := 38) f_X3_19 dX3_fork_38 (c_0) rfl ?_
    refine g_iload_n (i := 1) (pc := 41) dX3_fork_41 rfl rfl ?_
    have hi := hK.2.2.1 0
    refine G.eqw c_self0 ?_
    refine g_v1 (pc := 42) okV_X1_doFork rfl l_X3_194 dX3_fork_42 (m_at0 c_ok0) hc_1 (by decide) (by decide) (Nat.le_of_ble_eq_true rfl) (t_X1_doFork c_ok0 hi (by omega)) (by simp only [m_len]) ?_
    simp only [Option.toList, List.cons_append, List.nil_append]
    refine G.eqw (c_mem0 (σ := df (k_ms (k_rem (κ)) 0) (p))) ?_
    refine G.eqS (v' := vI (dfv (k_ms (k_rem (κ)) 0) (p))) rfl ?_
    have bb := dfv_rng (k_ms (k_rem (κ)) 0) (p)
    have hK := kinv_ms (i := 0) hK (inv_df hi (p))
    refine g_iret (pc := 45) rfl dX3_fork_45 (fun h => h) ?_
    have h8 := b2_1.mp (show b2 (canF (k_ms κ 0) p) = 1 by omega)
    have h7 : ¬ lup (k_ms κ 0) = -1 := by rw [canF, Bool.and_eq_true, decide_eq_true_eq] at h8; exact h8.2
    have h9 : xc_fk (k_ms κ 0) p = 0 := by
      unfold xc_fk
      rw [if_pos hq, if_neg h7]
    exact dq_0 h9 (by rw [rem_0]; unfold dfv; rw [if_pos h8]) (by rw [if_pos h9];  rw [rem_0]; unfold df; rw [if_pos h8])
  · skip
    refine g_throw (pc := 16) (is := 192) (tx := "no process number is left") e_52_56 (by decide) rfl dX3_fork_16 dX3_fork_19 dX3_fork_20 dX3_fork_22 dX3_fork_25 (by decide) (Nat.le_of_ble_eq_true rfl) (by omega) ?_
    have h8 : lup (k_ms κ 0) = -1 := by
      by_cases q : lup (k_ms κ 0) = -1
      · exact q
      · have q2 := b2_t (b := canF (k_ms κ 0) p) (by rw [canF, Bool.and_eq_true, decide_eq_true_eq]; exact ⟨hq, q⟩)
        omega
    have h9 : xc_fk (k_ms κ 0) p = 2 := by
      unfold xc_fk
      rw [if_pos hq, if_pos h8]
    exact dq_2 h9 (by rw [if_neg (by rw [h9]; decide)])
set_option maxRecDepth 20000 in
set_option maxHeartbeats 4000000 in
theorem t_X3_exit {κ : KT} {δ : DT} {o : DT} (hK : KInv κ) {p : Int} (h_p : -2147483648 ≤ p ∧ p < 2147483648) : GM M_X3_exit false [vR 0, vI p] (cW κ δ o) 2 12 (dq (xR (xc_ex (k_ms κ 0) p) (nff (s_le (k_ms κ 0) p 16) - nff (k_ms κ 0)) "java/lang/IndexOutOfBoundsException" "java/lang/IllegalStateException" "java/lang/IllegalStateException") (cW (if xc_ex (k_ms κ 0) p = 0 then k_setms (k_rem κ) 0 (s_end (k_ms κ 0) p) else κ) δ o)) := by
  show G _ none _ _ 0 [some (vR 0), some (vI p)] [] _ _ _ _
  refine g_aload_n (i := 0) (pc := 0) dX3_exit_0 rfl rfl ?_
  refine g_iload_n (i := 1) (pc := 1) dX3_exit_1 rfl rfl ?_
  refine g_callV (pc := 2) (as := [vI (p)]) (bc' := 1) (bs' := 6) okV_X3_requireProcess rfl l_X3_185 dX3_exit_2 c_0 hc_3 rfl (Nat.le_of_ble_eq_true rfl) (by decide) (Nat.le_of_ble_eq_true rfl) (by omega) (t_X3_requireProcess hK (by omega)) (fun h => nomatch h) (fun r w' h => ?_) (fun E w' h => by
    obtain ⟨hq, rfl, rfl⟩ := dq_req2 h
    refine GX.out rfl ?_
    have h9 : xc_ex (k_ms κ 0) p = 1 := by
      unfold xc_ex
      rw [if_neg hq]
    exact dq_1 h9 (by rw [if_neg (by rw [h9]; decide)]))
  obtain ⟨hq, rfl, rfl⟩ := dq_req1 h
  simp only [Option.toList, List.cons_append, List.nil_append]
  refine g_aload_n (i := 0) (pc := 5) dX3_exit_5 rfl rfl ?_
  refine g_getf (pc := 6) f_X3_19 dX3_exit_6 (c_0) rfl ?_
  refine g_iload_n (i := 1) (pc := 9) dX3_exit_9 rfl rfl ?_
  have hi := hK.2.2.1 0
  refine G.eqw c_self0 ?_
  refine g_v1 (pc := 10) okV_X1_canExit rfl l_X3_198 dX3_exit_10 (m_at0 c_ok0) hc_1 (by decide) (by decide) (Nat.le_of_ble_eq_true rfl) (t_X1_canExit c_ok0 hi (by omega)) (by simp only [m_len]) ?_
  simp only [Option.toList, List.cons_append, List.nil_append]
  refine G.eqw c_self0.symm ?_
  have bb := b2_rng (canE (k_ms (κ) 0) (p))
  refine g_z_ne (tgt := 26) (pc := 13) dX3_exit_13 (by omega) (by decide) (fun c13 => ?_) (fun c13 => ?_)
  · skip
    refine g_aload_n (i := 0) (pc := 26) dX3_exit_26 rfl rfl ?_
    refine g_getf (pc := 27) f_X3_29 dX3_exit_27 (c_0) rfl ?_
    refine g_aload_n (i := 0) (pc := 30) dX3_exit_30 rfl rfl ?_
    refine g_getf (pc := 31) f_X3_19 dX3_exit_31 (c_0) rfl ?_
    refine g_vr (pc := 34) okV_X0_remember rfl l_X3_177 dX3_exit_34 c_11 hc_0 (by decide) (by decide) (Nat.le_of_ble_eq_true rfl) (t_X0_remember hK) (by rw [c_len, c_len]) ?_
    simp only [Option.toList, List.cons_append, List.nil_append]
    have hK0 := hK
    have hK := kinv_rem hK
    refine g_aload_n (i := 0) (pc := 37) dX3_exit_37 rfl rfl ?_
    refine g_getf (pc := 38) f_X3_19 dX3_exit_38 (c_0) rfl ?_
    refine g_iload_n (i := 1) (pc := 41) dX3_exit_41 rfl rfl ?_
    have hi := hK.2.2.1 0
    refine G.eqw c_self0 ?_
    refine g_v1 (pc := 42) okV_X1_doExit rfl l_X3_203 dX3_exit_42 (m_at0 c_ok0) hc_1 (by decide) (by decide) (Nat.le_of_ble_eq_true rfl) (t_X1_doExit c_ok0 hi (by omega)) (by simp only [m_len]) ?_
    simp only [Option.toList, List.cons_append, List.nil_append]
    refine G.eqw (c_mem0 (σ := de (k_ms (k_rem (κ)) 0) (p))) ?_
    refine G.eqS (v' := vI (dev (k_ms (k_rem (κ)) 0) (p))) rfl ?_
    have bb := dev_rng (k_ms (k_rem (κ)) 0) (p)
    have hK := kinv_ms (i := 0) hK (inv_de hi (p))
    refine g_iret (pc := 45) rfl dX3_exit_45 (fun h => h) ?_
    have h8 := b2_1.mp (show b2 (canE (k_ms κ 0) p) = 1 by omega)
    have h9 : xc_ex (k_ms κ 0) p = 0 := by
      unfold xc_ex
      rw [if_pos hq, if_pos h8]
    exact dq_0 h9 (by rw [rem_0]; unfold dev; rw [if_pos h8]) (by rw [if_pos h9];  rw [rem_0]; unfold de; rw [if_pos h8])
  · skip
    refine g_throw (pc := 16) (is := 201) (tx := "it is the only process") e_52_56 (by decide) rfl dX3_exit_16 dX3_exit_19 dX3_exit_20 dX3_exit_22 dX3_exit_25 (by decide) (Nat.le_of_ble_eq_true rfl) (by omega) ?_
    have h9 : xc_ex (k_ms κ 0) p = 2 := by
      unfold xc_ex
      rw [if_pos hq, if_neg (b2_0.mp (by omega))]
    exact dq_2 h9 (by rw [if_neg (by rw [h9]; decide)])
set_option maxRecDepth 20000 in
set_option maxHeartbeats 4000000 in
theorem t_X3_marry {κ : KT} {δ : DT} {o : DT} (hK : KInv κ) {p g : Int} (h_p : -2147483648 ≤ p ∧ p < 2147483648) (h_g : -2147483648 ≤ g ∧ g < 2147483648) : GM M_X3_marry false [vR 0, vI p, vI g] (cW κ δ o) 2 12 (dq (xR (xc_ma (k_ms κ 0) p g) (if ip (k_ms κ 0) p g = true then 0 else 4) "java/lang/IndexOutOfBoundsException" "java/lang/IllegalStateException" "java/lang/IllegalStateException") (cW (if xc_ma (k_ms κ 0) p g = 0 then k_setms (k_rem κ) 0 (s_mar (k_ms κ 0) p g) else κ) δ o)) := by
  show G _ none _ _ 0 [some (vR 0), some (vI p), some (vI g)] [] _ _ _ _
  refine g_aload_n (i := 0) (pc := 0) dX3_marry_0 rfl rfl ?_
  refine g_iload_n (i := 1) (pc := 1) dX3_marry_1 rfl rfl ?_
  refine g_iload_n (i := 2) (pc := 2) dX3_marry_2 rfl rfl ?_
  refine g_callV (pc := 3) (as := [vI (p), vI (g)]) (bc' := 1) (bs' := 6) okV_X3_requireGroup rfl l_X3_153 dX3_marry_3 c_0 hc_3 rfl (Nat.le_of_ble_eq_true rfl) (by decide) (Nat.le_of_ble_eq_true rfl) (by omega) (t_X3_requireGroup hK (by omega) (by omega)) (fun h => nomatch h) (fun r w' h => ?_) (fun E w' h => by
    obtain ⟨hq, rfl, rfl⟩ := dq_req2 h
    refine GX.out rfl ?_
    have h9 : xc_ma (k_ms κ 0) p g = 1 := by
      unfold xc_ma
      rw [if_neg hq]
    exact dq_1 h9 (by rw [if_neg (by rw [h9]; decide)]))
  obtain ⟨hq, rfl, rfl⟩ := dq_req1 h
  simp only [Option.toList, List.cons_append, List.nil_append]
  obtain ⟨⟨h_p1, h_p2, h_e⟩, h_g1, h_g2⟩ := ex_gr hq
  refine g_aload_n (i := 0) (pc := 6) dX3_marry_6 rfl rfl ?_
  refine g_getf (pc := 7) f_X3_19 dX3_marry_7 (c_0) rfl ?_
  refine g_iload_n (i := 1) (pc := 10) dX3_marry_10 rfl rfl ?_
  refine g_iload_n (i := 2) (pc := 11) dX3_marry_11 rfl rfl ?_
  have hi := hK.2.2.1 0
  refine G.eqw c_self0 ?_
  refine g_v2 (pc := 12) okV_X1_obstacleToMarriage rfl l_X3_206 dX3_marry_12 (m_at0 c_ok0) hc_1 (by decide) (by decide) (Nat.le_of_ble_eq_true rfl) (t_X1_obstacleToMarriage c_ok0 hi (by omega) (by omega)) (by simp only [m_len]) ?_
  simp only [Option.toList, List.cons_append, List.nil_append]
  refine G.eqw c_self0.symm ?_
  have bb := wn_rng (k_ms (κ) 0) (p) (g)
  refine g_z_eq (tgt := 28) (pc := 15) dX3_marry_15 (by omega) (by decide) (fun c15 => ?_) (fun c15 => ?_)
  · skip
    refine g_aload_n (i := 0) (pc := 28) dX3_marry_28 rfl rfl ?_
    refine g_getf (pc := 29) f_X3_29 dX3_marry_29 (c_0) rfl ?_
    refine g_aload_n (i := 0) (pc := 32) dX3_marry_32 rfl rfl ?_
    refine g_getf (pc := 33) f_X3_19 dX3_marry_33 (c_0) rfl ?_
    refine g_vr (pc := 36) okV_X0_remember rfl l_X3_177 dX3_marry_36 c_11 hc_0 (by decide) (by decide) (Nat.le_of_ble_eq_true rfl) (t_X0_remember hK) (by rw [c_len, c_len]) ?_
    simp only [Option.toList, List.cons_append, List.nil_append]
    have hK0 := hK
    have hK := kinv_rem hK
    refine g_aload_n (i := 0) (pc := 39) dX3_marry_39 rfl rfl ?_
    refine g_getf (pc := 40) f_X3_19 dX3_marry_40 (c_0) rfl ?_
    refine g_iload_n (i := 1) (pc := 43) dX3_marry_43 rfl rfl ?_
    refine g_iload_n (i := 2) (pc := 44) dX3_marry_44 rfl rfl ?_
    have hi := hK.2.2.1 0
    refine G.eqw c_self0 ?_
    refine g_v2 (pc := 45) okV_X1_doMarry rfl l_X3_211 dX3_marry_45 (m_at0 c_ok0) hc_1 (by decide) (by decide) (Nat.le_of_ble_eq_true rfl) (t_X1_doMarry c_ok0 hi (by omega) (by omega)) (by simp only [m_len]) ?_
    simp only [Option.toList, List.cons_append, List.nil_append]
    refine G.eqw (c_mem0 (σ := dm (k_ms (k_rem (κ)) 0) (p) (g))) ?_
    refine G.eqS (v' := vI (dmv (k_ms (k_rem (κ)) 0) (p) (g))) rfl ?_
    have bb := dmv_rng (k_ms (k_rem (κ)) 0) (p) (g)
    have hK := kinv_ms (i := 0) hK (inv_dm hi (p) (g))
    refine g_iret (pc := 48) rfl dX3_marry_48 (fun h => h) ?_
    have h9 : xc_ma (k_ms κ 0) p g = 0 := by
      unfold xc_ma
      rw [if_pos hq, if_pos (by omega)]
    exact dq_0 h9 (by rw [rem_0]; unfold dmv; rw [if_pos ⟨hq, by omega⟩]) (by rw [if_pos h9];  rw [rem_0]; unfold dm; rw [if_pos ⟨hq, by omega⟩])
  · skip
    refine g_throw (pc := 18) (is := 209) (tx := "the group cannot marry") e_52_56 (by decide) rfl dX3_marry_18 dX3_marry_21 dX3_marry_22 dX3_marry_24 dX3_marry_27 (by decide) (Nat.le_of_ble_eq_true rfl) (by omega) ?_
    have h9 : xc_ma (k_ms κ 0) p g = 2 := by
      unfold xc_ma
      rw [if_pos hq, if_neg (by omega)]
    exact dq_2 h9 (by rw [if_neg (by rw [h9]; decide)])
set_option maxRecDepth 20000 in
set_option maxHeartbeats 4000000 in
theorem t_X3_tear {κ : KT} {δ : DT} {o : DT} (hK : KInv κ) {p g : Int} (h_p : -2147483648 ≤ p ∧ p < 2147483648) (h_g : -2147483648 ≤ g ∧ g < 2147483648) : GM M_X3_tear false [vR 0, vI p, vI g] (cW κ δ o) 2 12 (dq (xR (xc_te (k_ms κ 0) p g) (ro (k_ms κ 0) p g) "java/lang/IndexOutOfBoundsException" "java/lang/IllegalStateException" "java/lang/IllegalStateException") (cW (if xc_te (k_ms κ 0) p g = 0 then k_setms (k_rem κ) 0 (s_torn (k_ms κ 0) p g) else κ) δ o)) := by
  show G _ none _ _ 0 [some (vR 0), some (vI p), some (vI g)] [] _ _ _ _
  refine g_aload_n (i := 0) (pc := 0) dX3_tear_0 rfl rfl ?_
  refine g_iload_n (i := 1) (pc := 1) dX3_tear_1 rfl rfl ?_
  refine g_iload_n (i := 2) (pc := 2) dX3_tear_2 rfl rfl ?_
  refine g_callV (pc := 3) (as := [vI (p), vI (g)]) (bc' := 1) (bs' := 6) okV_X3_requireGroup rfl l_X3_153 dX3_tear_3 c_0 hc_3 rfl (Nat.le_of_ble_eq_true rfl) (by decide) (Nat.le_of_ble_eq_true rfl) (by omega) (t_X3_requireGroup hK (by omega) (by omega)) (fun h => nomatch h) (fun r w' h => ?_) (fun E w' h => by
    obtain ⟨hq, rfl, rfl⟩ := dq_req2 h
    refine GX.out rfl ?_
    have h9 : xc_te (k_ms κ 0) p g = 1 := by
      unfold xc_te
      rw [if_neg hq]
    exact dq_1 h9 (by rw [if_neg (by rw [h9]; decide)]))
  obtain ⟨hq, rfl, rfl⟩ := dq_req1 h
  simp only [Option.toList, List.cons_append, List.nil_append]
  obtain ⟨⟨h_p1, h_p2, h_e⟩, h_g1, h_g2⟩ := ex_gr hq
  refine g_aload_n (i := 0) (pc := 6) dX3_tear_6 rfl rfl ?_
  refine g_getf (pc := 7) f_X3_19 dX3_tear_7 (c_0) rfl ?_
  refine g_iload_n (i := 1) (pc := 10) dX3_tear_10 rfl rfl ?_
  refine g_iload_n (i := 2) (pc := 11) dX3_tear_11 rfl rfl ?_
  have hi := hK.2.2.1 0
  refine G.eqw c_self0 ?_
  refine g_v2 (pc := 12) okV_X1_isBig rfl l_X3_137 dX3_tear_12 (m_at0 c_ok0) hc_1 (by decide) (by decide) (Nat.le_of_ble_eq_true rfl) (t_X1_isBig c_ok0 hi (by omega) (by omega)) (by simp only [m_len]) ?_
  simp only [Option.toList, List.cons_append, List.nil_append]
  refine G.eqw c_self0.symm ?_
  have bb := b2_rng (big (k_ms (κ) 0) (p) (g))
  refine g_z_ne (tgt := 28) (pc := 15) dX3_tear_15 (by omega) (by decide) (fun c15 => ?_) (fun c15 => ?_)
  · skip
    refine g_aload_n (i := 0) (pc := 28) dX3_tear_28 rfl rfl ?_
    refine g_getf (pc := 29) f_X3_29 dX3_tear_29 (c_0) rfl ?_
    refine g_aload_n (i := 0) (pc := 32) dX3_tear_32 rfl rfl ?_
    refine g_getf (pc := 33) f_X3_19 dX3_tear_33 (c_0) rfl ?_
    refine g_vr (pc := 36) okV_X0_remember rfl l_X3_177 dX3_tear_36 c_11 hc_0 (by decide) (by decide) (Nat.le_of_ble_eq_true rfl) (t_X0_remember hK) (by rw [c_len, c_len]) ?_
    simp only [Option.toList, List.cons_append, List.nil_append]
    have hK0 := hK
    have hK := kinv_rem hK
    refine g_aload_n (i := 0) (pc := 39) dX3_tear_39 rfl rfl ?_
    refine g_getf (pc := 40) f_X3_19 dX3_tear_40 (c_0) rfl ?_
    refine g_iload_n (i := 1) (pc := 43) dX3_tear_43 rfl rfl ?_
    refine g_iload_n (i := 2) (pc := 44) dX3_tear_44 rfl rfl ?_
    have hi := hK.2.2.1 0
    refine G.eqw c_self0 ?_
    refine g_v2 (pc := 45) okV_X1_doTear rfl l_X3_216 dX3_tear_45 (m_at0 c_ok0) hc_1 (by decide) (by decide) (Nat.le_of_ble_eq_true rfl) (t_X1_doTear c_ok0 hi (by omega) (by omega)) (by simp only [m_len]) ?_
    simp only [Option.toList, List.cons_append, List.nil_append]
    refine G.eqw (c_mem0 (σ := dtt (k_ms (k_rem (κ)) 0) (p) (g))) ?_
    refine G.eqS (v' := vI (ro (k_ms (k_rem (κ)) 0) (p) (g))) rfl ?_
    have bb := ro_rng hi (p) (g)
    have hK := kinv_ms (i := 0) hK (inv_dtt hi (p) (g))
    refine g_iret (pc := 48) rfl dX3_tear_48 (fun h => h) ?_
    have h8 := b2_1.mp (show b2 (big (k_ms κ 0) p g) = 1 by omega)
    have h7 := ro_b (hK0.2.2.1 0) h8
    have h9 : xc_te (k_ms κ 0) p g = 0 := by
      unfold xc_te
      rw [if_pos hq, if_pos h8]
    exact dq_0 h9 (by rw [rem_0]) (by rw [if_pos h9];  rw [rem_0]; unfold dtt; rw [if_neg h7])
  · skip
    refine g_throw (pc := 18) (is := 214) (tx := "the group is not big") e_52_56 (by decide) rfl dX3_tear_18 dX3_tear_21 dX3_tear_22 dX3_tear_24 dX3_tear_27 (by decide) (Nat.le_of_ble_eq_true rfl) (by omega) ?_
    have h9 : xc_te (k_ms κ 0) p g = 2 := by
      unfold xc_te
      rw [if_pos hq, if_neg (b2_0.mp (by omega))]
    exact dq_2 h9 (by rw [if_neg (by rw [h9]; decide)])
set_option maxRecDepth 20000 in
set_option maxHeartbeats 4000000 in
theorem t_X3_press {κ : KT} {δ : DT} {o : DT} (hK : KInv κ) {n : Int} (h_n : -2147483648 ≤ n ∧ n < 2147483648) : GM M_X3_press false [vR 0, vI n] (cW κ δ o) 2 12 (dq (xR (xc_pr n) (nff (s_pre (k_ms κ 0) n)) "java/lang/IllegalArgumentException" "java/lang/IllegalArgumentException" "java/lang/IllegalArgumentException") (cW (if xc_pr n = 0 then k_setms (k_rem κ) 0 (s_pre (k_ms κ 0) n) else κ) δ o)) := by
  show G _ none _ _ 0 [some (vR 0), some (vI n)] [] _ _ _ _
  refine g_iload_n (i := 1) (pc := 0) dX3_press_0 rfl rfl ?_
  refine g_iconst (pc := 1) dX3_press_1 ?_
  refine g_c_lt (tgt := 11) (pc := 2) dX3_press_2 (by omega) (by decide) (fun c2 => ?_) (fun c2 => ?_)
  · skip
    refine g_throw (pc := 11) (is := 219) (tx := "no such number of frames") e_41_45 (by decide) rfl dX3_press_11 dX3_press_14 dX3_press_15 dX3_press_17 dX3_press_20 (by decide) (Nat.le_of_ble_eq_true rfl) (by omega) ?_
    have h9 : xc_pr n = 1 := by
      unfold xc_pr
      rw [if_neg (by omega)]
    exact dq_1 h9 (by rw [if_neg (by rw [h9]; decide)])
  · skip
    refine g_iload_n (i := 1) (pc := 5) dX3_press_5 rfl rfl ?_
    refine g_bipush (pc := 6) dX3_press_6 (by decide) ?_
    refine g_c_le (tgt := 21) (pc := 8) dX3_press_8 (by omega) (by decide) (fun c8 => ?_) (fun c8 => ?_)
    · skip
      refine g_aload_n (i := 0) (pc := 21) dX3_press_21 rfl rfl ?_
      refine g_getf (pc := 22) f_X3_29 dX3_press_22 (c_0) rfl ?_
      refine g_aload_n (i := 0) (pc := 25) dX3_press_25 rfl rfl ?_
      refine g_getf (pc := 26) f_X3_19 dX3_press_26 (c_0) rfl ?_
      refine g_vr (pc := 29) okV_X0_remember rfl l_X3_177 dX3_press_29 c_11 hc_0 (by decide) (by decide) (Nat.le_of_ble_eq_true rfl) (t_X0_remember hK) (by rw [c_len, c_len]) ?_
      simp only [Option.toList, List.cons_append, List.nil_append]
      have hK0 := hK
      have hK := kinv_rem hK
      refine g_aload_n (i := 0) (pc := 32) dX3_press_32 rfl rfl ?_
      refine g_getf (pc := 33) f_X3_19 dX3_press_33 (c_0) rfl ?_
      refine g_iload_n (i := 1) (pc := 36) dX3_press_36 rfl rfl ?_
      have hi := hK.2.2.1 0
      refine G.eqw c_self0 ?_
      refine g_v1 (pc := 37) okV_X1_doPress rfl l_X3_221 dX3_press_37 (m_at0 c_ok0) hc_1 (by decide) (by decide) (Nat.le_of_ble_eq_true rfl) (t_X1_doPress c_ok0 hi (by omega)) (by simp only [m_len]) ?_
      simp only [Option.toList, List.cons_append, List.nil_append]
      refine G.eqw (c_mem0 (σ := dp (k_ms (k_rem (κ)) 0) (n))) ?_
      refine G.eqS (v' := vI (dpv (k_ms (k_rem (κ)) 0) (n))) rfl ?_
      have bb := dpv_rng (k_ms (k_rem (κ)) 0) (n)
      have hK := kinv_ms (i := 0) hK (inv_dp hi (n))
      refine g_iret (pc := 40) rfl dX3_press_40 (fun h => h) ?_
      have h9 : xc_pr n = 0 := by
        unfold xc_pr
        rw [if_pos (by omega)]
      exact dq_0 h9 (by rw [rem_0]; unfold dpv; rw [if_pos (by omega)]) (by rw [if_pos h9];  rw [rem_0]; unfold dp; rw [if_pos (by omega)])
    · skip
      refine g_throw (pc := 11) (is := 219) (tx := "no such number of frames") e_41_45 (by decide) rfl dX3_press_11 dX3_press_14 dX3_press_15 dX3_press_17 dX3_press_20 (by decide) (Nat.le_of_ble_eq_true rfl) (by omega) ?_
      have h9 : xc_pr n = 1 := by
        unfold xc_pr
        rw [if_neg (by omega)]
      exact dq_1 h9 (by rw [if_neg (by rw [h9]; decide)])
set_option maxRecDepth 20000 in
set_option maxHeartbeats 4000000 in
theorem t_X3_setEager {κ : KT} {δ : DT} {o : DT} (hK : KInv κ) {x : Int} (h_x : x = 0 ∨ x = 1) : GM M_X3_setEager false [vR 0, vI x] (cW κ δ o) 0 0 (dt (some (vI (nfr (k_ms κ 0)))) (cW (k_setms (k_rem κ) 0 (s_setea (k_ms κ 0) x)) δ o)) := by
  show G _ none _ _ 0 [some (vR 0), some (vI x)] [] _ _ _ _
  refine g_aload_n (i := 0) (pc := 0) dX3_setEager_0 rfl rfl ?_
  refine g_getf (pc := 1) f_X3_29 dX3_setEager_1 (c_0) rfl ?_
  refine g_aload_n (i := 0) (pc := 4) dX3_setEager_4 rfl rfl ?_
  refine g_getf (pc := 5) f_X3_19 dX3_setEager_5 (c_0) rfl ?_
  refine g_vr (pc := 8) okV_X0_remember rfl l_X3_177 dX3_setEager_8 c_11 hc_0 (by decide) (by decide) (Nat.le_of_ble_eq_true rfl) (t_X0_remember hK) (by rw [c_len, c_len]) ?_
  simp only [Option.toList, List.cons_append, List.nil_append]
  have hK0 := hK
  have hK := kinv_rem hK
  refine g_aload_n (i := 0) (pc := 11) dX3_setEager_11 rfl rfl ?_
  refine g_getf (pc := 12) f_X3_19 dX3_setEager_12 (c_0) rfl ?_
  refine g_iload_n (i := 1) (pc := 15) dX3_setEager_15 rfl rfl ?_
  refine g_put (pc := 16) ft_X3_117 dX3_setEager_16 (c_rd0.1) (Nat.le_of_ble_eq_true rfl) (g_zn (by omega)) (g_zf (by omega)) (fun h => nomatch h) ?_
  refine G.eqw w_ea0 ?_
  refine g_aload_n (i := 0) (pc := 19) dX3_setEager_19 rfl rfl ?_
  have hK := kinv_ms (i := 0) hK (inv_ea (hK.2.2.1 0) h_x)
  refine g_getf (pc := 20) f_X3_19 dX3_setEager_20 (c_0) rfl ?_
  have hi := hK.2.2.1 0
  refine G.eqw c_self0 ?_
  refine g_v0 (pc := 23) okV_X1_freeRuns rfl l_X3_92 dX3_setEager_23 (m_at0 c_ok0) hc_1 (by decide) (by decide) (Nat.le_of_ble_eq_true rfl) (t_X1_freeRuns c_ok0 hi) (by simp only [m_len]) ?_
  simp only [Option.toList, List.cons_append, List.nil_append]
  refine G.eqw c_self0.symm ?_
  have bb := nfr_rng (k_ms (k_setms (k_rem (κ)) 0 (s_setea (k_ms (k_rem (κ)) 0) (x))) 0)
  refine g_iret (pc := 26) rfl dX3_setEager_26 (fun h => h) ?_
  refine dt_i ?_ ?_
  · show nfr (s_setea (k_ms (k_rem κ) 0) x) = _
    rw [rem_0]
    rfl
  · rw [rem_0]
set_option maxRecDepth 20000 in
set_option maxHeartbeats 4000000 in
theorem t_X3_whyNot {κ : KT} {δ : DT} {o : DT} (hK : KInv κ) {p g : Int} (h_p : -2147483648 ≤ p ∧ p < 2147483648) (h_g : -2147483648 ≤ g ∧ g < 2147483648) : GM M_X3_whyNot false [vR 0, vI p, vI g] (cW κ δ o) 2 12 (dq (xR (xc_wn (k_ms κ 0) p g) (wn (k_ms κ 0) p g) "java/lang/IndexOutOfBoundsException" "java/lang/IndexOutOfBoundsException" "java/lang/IndexOutOfBoundsException") (cW κ δ o)) := by
  show G _ none _ _ 0 [some (vR 0), some (vI p), some (vI g)] [] _ _ _ _
  refine g_aload_n (i := 0) (pc := 0) dX3_whyNot_0 rfl rfl ?_
  refine g_iload_n (i := 1) (pc := 1) dX3_whyNot_1 rfl rfl ?_
  refine g_iload_n (i := 2) (pc := 2) dX3_whyNot_2 rfl rfl ?_
  refine g_callV (pc := 3) (as := [vI (p), vI (g)]) (bc' := 1) (bs' := 6) okV_X3_requireGroup rfl l_X3_153 dX3_whyNot_3 c_0 hc_3 rfl (Nat.le_of_ble_eq_true rfl) (by decide) (Nat.le_of_ble_eq_true rfl) (by omega) (t_X3_requireGroup hK (by omega) (by omega)) (fun h => nomatch h) (fun r w' h => ?_) (fun E w' h => by
    obtain ⟨hq, rfl, rfl⟩ := dq_req2 h
    refine GX.out rfl ?_
    have h9 : xc_wn (k_ms κ 0) p g = 1 := by
      unfold xc_wn
      rw [if_neg hq]
    exact dq_1 h9 (rfl))
  obtain ⟨hq, rfl, rfl⟩ := dq_req1 h
  simp only [Option.toList, List.cons_append, List.nil_append]
  obtain ⟨⟨h_p1, h_p2, h_e⟩, h_g1, h_g2⟩ := ex_gr hq
  refine g_aload_n (i := 0) (pc := 6) dX3_whyNot_6 rfl rfl ?_
  refine g_getf (pc := 7) f_X3_19 dX3_whyNot_7 (c_0) rfl ?_
  refine g_iload_n (i := 1) (pc := 10) dX3_whyNot_10 rfl rfl ?_
  refine g_iload_n (i := 2) (pc := 11) dX3_whyNot_11 rfl rfl ?_
  have hi := hK.2.2.1 0
  refine G.eqw c_self0 ?_
  refine g_v2 (pc := 12) okV_X1_obstacleToMarriage rfl l_X3_206 dX3_whyNot_12 (m_at0 c_ok0) hc_1 (by decide) (by decide) (Nat.le_of_ble_eq_true rfl) (t_X1_obstacleToMarriage c_ok0 hi (by omega) (by omega)) (by simp only [m_len]) ?_
  simp only [Option.toList, List.cons_append, List.nil_append]
  refine G.eqw c_self0.symm ?_
  have bb := wn_rng (k_ms (κ) 0) (p) (g)
  refine g_iret (pc := 15) rfl dX3_whyNot_15 (fun h => h) ?_
  have h9 : xc_wn (k_ms κ 0) p g = 0 := by
    unfold xc_wn
    rw [if_pos hq]
  exact dq_0 h9 (rfl) (rfl)
set_option maxRecDepth 20000 in
set_option maxHeartbeats 4000000 in
theorem t_X3_wouldDo {κ : KT} {δ : DT} {o : DT} (hK : KInv κ) {p v : Int} (h_p : -2147483648 ≤ p ∧ p < 2147483648) (h_v : -2147483648 ≤ v ∧ v < 2147483648) : GM M_X3_wouldDo false [vR 0, vI p, vI v] (cW κ δ o) 2 12 (dq (xR (xc_wd (k_ms κ 0) p v) (oc (k_ms κ 0) p v) "java/lang/IndexOutOfBoundsException" "java/lang/IndexOutOfBoundsException" "java/lang/IndexOutOfBoundsException") (cW κ δ o)) := by
  show G _ none _ _ 0 [some (vR 0), some (vI p), some (vI v)] [] _ _ _ _
  refine g_aload_n (i := 0) (pc := 0) dX3_wouldDo_0 rfl rfl ?_
  refine g_iload_n (i := 1) (pc := 1) dX3_wouldDo_1 rfl rfl ?_
  refine g_iload_n (i := 2) (pc := 2) dX3_wouldDo_2 rfl rfl ?_
  refine g_callV (pc := 3) (as := [vI (p), vI (v)]) (bc' := 1) (bs' := 6) okV_X3_requirePage rfl l_X3_123 dX3_wouldDo_3 c_0 hc_3 rfl (Nat.le_of_ble_eq_true rfl) (by decide) (Nat.le_of_ble_eq_true rfl) (by omega) (t_X3_requirePage hK (by omega) (by omega)) (fun h => nomatch h) (fun r w' h => ?_) (fun E w' h => by
    obtain ⟨hq, rfl, rfl⟩ := dq_req2 h
    refine GX.out rfl ?_
    have h9 : xc_wd (k_ms κ 0) p v = 1 := by
      unfold xc_wd
      rw [if_neg hq]
    exact dq_1 h9 (rfl))
  obtain ⟨hq, rfl, rfl⟩ := dq_req1 h
  simp only [Option.toList, List.cons_append, List.nil_append]
  obtain ⟨⟨h_p1, h_p2, h_e⟩, h_v1, h_v2⟩ := ex_pg hq
  refine g_aload_n (i := 0) (pc := 6) dX3_wouldDo_6 rfl rfl ?_
  refine g_getf (pc := 7) f_X3_19 dX3_wouldDo_7 (c_0) rfl ?_
  refine g_iload_n (i := 1) (pc := 10) dX3_wouldDo_10 rfl rfl ?_
  refine g_iload_n (i := 2) (pc := 11) dX3_wouldDo_11 rfl rfl ?_
  have hi := hK.2.2.1 0
  refine G.eqw c_self0 ?_
  refine g_v2 (pc := 12) okV_X1_outcomeOfWrite rfl l_X3_172 dX3_wouldDo_12 (m_at0 c_ok0) hc_1 (by decide) (by decide) (Nat.le_of_ble_eq_true rfl) (t_X1_outcomeOfWrite c_ok0 hi (by omega) (by omega)) (by simp only [m_len]) ?_
  simp only [Option.toList, List.cons_append, List.nil_append]
  refine G.eqw c_self0.symm ?_
  have bb := oc_rng (k_ms (κ) 0) (p) (v)
  refine g_iret (pc := 15) rfl dX3_wouldDo_15 (fun h => h) ?_
  have h9 : xc_wd (k_ms κ 0) p v = 0 := by
    unfold xc_wd
    rw [if_pos hq]
  exact dq_0 h9 (rfl) (rfl)
set_option maxRecDepth 20000 in
set_option maxHeartbeats 4000000 in
theorem t_X3_marriages {κ : KT} {δ : DT} {o : DT} (hK : KInv κ) : GM M_X3_marriages false [vR 0] (cW κ δ o) 0 0 (dx (.inl (some (vI (cmv (k_ms κ 0))))) κ δ o) := by
  show G _ none _ _ 0 [some (vR 0), none] [] _ _ _ _
  refine g_aload_n (i := 0) (pc := 0) dX3_marriages_0 rfl rfl ?_
  refine g_getf (pc := 1) f_X3_23 dX3_marriages_1 (c_0) rfl ?_
  refine g_aload_n (i := 0) (pc := 4) dX3_marriages_4 rfl rfl ?_
  refine g_getf (pc := 5) f_X3_19 dX3_marriages_5 (c_0) rfl ?_
  refine G.eqw c_self1 ?_
  refine g_vr (pc := 8) okV_X1_copyFrom rfl l_X3_232 dX3_marriages_8 (m_at0 c_ok1) hc_1 (by decide) (by decide) (Nat.le_of_ble_eq_true rfl) (t_X1_copyFrom c_ok1 (hK.2.2.1 1) c_rd0 (hK.2.2.1 0) (by decide)) (by simp only [m_len]) ?_
  simp only [Option.toList, List.cons_append, List.nil_append]
  refine G.eqw c_mem1 ?_
  have hK0 := hK
  have hK := kinv_ms (i := 1) hK (hK.2.2.1 0)
  refine g_iconst (pc := 11) dX3_marriages_11 ?_
  refine g_istore_n (i := 1) (pc := 12) dX3_marriages_12 rfl (by decide) rfl ?_
  simp only [List.set_cons_succ, List.set_cons_zero]
  have hI := hK0.2.2.1 0
  refine lp_up (P := fun k => (∀ j : Nat, j < k → ¬ decide (nxt (itm (k_ms κ 0) j) = -1) = true) → G M_X3_marriages none false false 13 [some (vR 0), some (vI k)] [] (cW (k_setms κ 1 (itm (k_ms κ 0) k)) δ o) 0 0 (dx (.inl (some (vI (cmv (k_ms κ 0))))) κ δ o)) 16 ?_ ?_ 0 (Nat.zero_le _) (fun i h => absurd h (Nat.not_lt_zero i))
  · intro hH
    have h9 : cmv (k_ms κ 0) = 16 := by unfold cmv; rw [ff_none hH, if_pos rfl]
    show G _ _ _ _ _ _ _ (cW (k_setms κ 1 (itm (k_ms κ 0) 16)) δ o) _ _ _
    have hi := inv_itm hI 16
    refine g_iload_n (i := 1) (pc := 13) dX3_marriages_13 rfl rfl ?_
    refine g_bipush (pc := 14) dX3_marriages_14 (by decide) ?_
    refine g_c_ge (tgt := 35) (pc := 16) dX3_marriages_16 (by omega) (by decide) (fun c16 => ?_) (fun c16 => absurd c16 (by omega))
    refine g_iload_n (i := 1) (pc := 35) dX3_marriages_35 rfl rfl ?_
    refine g_iret (pc := 36) rfl dX3_marriages_36 (fun h => h) ?_
    exact dx_i h9.symm hi rfl
  · intro k hk ih hH
    have hK := kinv_ms (i := 1) hK0 (inv_itm hI k)
    refine g_iload_n (i := 1) (pc := 13) dX3_marriages_13 rfl rfl ?_
    refine g_bipush (pc := 14) dX3_marriages_14 (by decide) ?_
    refine g_c_ge (tgt := 35) (pc := 16) dX3_marriages_16 (by omega) (by decide) (fun c16 => absurd c16 (by omega)) (fun c16 => ?_)
    refine g_aload_n (i := 0) (pc := 19) dX3_marriages_19 rfl rfl ?_
    refine g_getf (pc := 20) f_X3_23 dX3_marriages_20 (c_0) rfl ?_
    have hi := hK.2.2.1 1
    refine G.eqw c_self1 ?_
    refine g_v0 (pc := 23) okV_X1_marryNext rfl l_X3_235 dX3_marriages_23 (m_at0 c_ok1) hc_1 (by decide) (by decide) (Nat.le_of_ble_eq_true rfl) (t_X1_marryNext c_ok1 hi) (by simp only [m_len]) ?_
    simp only [Option.toList, List.cons_append, List.nil_append]
    refine G.eqw (c_mem1 (σ := dn (k_ms (k_setms κ 1 (itm (k_ms κ 0) k)) 1))) ?_
    refine G.eqS (v' := vI (b2 (decide (nxt (k_ms (k_setms κ 1 (itm (k_ms κ 0) k)) 1) ≠ -1)))) rfl ?_
    have bb := b2_rng (decide (nxt (k_ms (k_setms κ 1 (itm (k_ms κ 0) k)) 1) ≠ -1))
    have hK := kinv_ms (i := 1) hK (inv_dn hi)
    refine g_z_eq (tgt := 35) (pc := 26) dX3_marriages_26 (by omega) (by decide) (fun c26 => ?_) (fun c26 => ?_)
    · skip
      refine g_iload_n (i := 1) (pc := 35) dX3_marriages_35 rfl rfl ?_
      refine g_iret (pc := 36) rfl dX3_marriages_36 (fun h => h) ?_
      have q5 : k_ms (k_setms κ 1 (itm (k_ms κ 0) k)) 1 = itm (k_ms κ 0) k := ms_at _ _ _
      rw [q5] at c26
      have h8 : nxt (itm (k_ms κ 0) k) = -1 := by
        by_cases q : nxt (itm (k_ms κ 0) k) = -1
        · exact q
        · have q2 := b2_t (decide_eq_true (show nxt (itm (k_ms κ 0) k) ≠ -1 by omega))
          omega
      have h9 : cmv (k_ms κ 0) = k := by
        have h7 : ff (fun k => decide (nxt (itm (k_ms κ 0) k) = -1)) 16 = k := ff_some (by rw [decide_eq_true_eq]; exact h8) hH hk
        unfold cmv
        rw [h7, if_neg (by omega)]
      refine dx_i h9.symm (inv_dn (inv_itm hI k)) ?_
      rw [ms_ms, q5]
    · skip
      refine g_iinc (pc := 29) dX3_marriages_29 rfl (by decide) rfl ?_
      simp only [List.set_cons_succ, List.set_cons_zero]
      refine g_goto (tgt := 13) (pc := 32) dX3_marriages_32 (by decide) ?_
      refine G.eqw (congrArg (fun z => cW z δ o) (ms_ms _ _ _ _)) (ih (fun j hj => ?_))
      rcases Nat.lt_or_ge j k with q | q
      · exact hH j q
      · rw [show j = k by omega, decide_eq_true_eq]
        intro q2
        have q3 := b2_0.mpr (fun q4 => absurd (of_decide_eq_true q4) (show ¬ nxt (itm (k_ms κ 0) k) ≠ -1 by omega))
        have q5 : k_ms (k_setms κ 1 (itm (k_ms κ 0) k)) 1 = itm (k_ms κ 0) k := ms_at _ _ _
        rw [q5] at c26
        omega
set_option maxRecDepth 20000 in
set_option maxHeartbeats 4000000 in
theorem t_X3_mostFree {κ : KT} {δ : DT} {o : DT} (hK : KInv κ) : GM M_X3_mostFree false [vR 0] (cW κ δ o) 0 0 (dx (.inl (some (vI (nff (s_pre (k_ms κ 0) 32))))) κ δ o) := by
  show G _ none _ _ 0 [some (vR 0)] [] _ _ _ _
  refine g_aload_n (i := 0) (pc := 0) dX3_mostFree_0 rfl rfl ?_
  refine g_getf (pc := 1) f_X3_23 dX3_mostFree_1 (c_0) rfl ?_
  refine g_aload_n (i := 0) (pc := 4) dX3_mostFree_4 rfl rfl ?_
  refine g_getf (pc := 5) f_X3_19 dX3_mostFree_5 (c_0) rfl ?_
  refine G.eqw c_self1 ?_
  refine g_vr (pc := 8) okV_X1_copyFrom rfl l_X3_232 dX3_mostFree_8 (m_at0 c_ok1) hc_1 (by decide) (by decide) (Nat.le_of_ble_eq_true rfl) (t_X1_copyFrom c_ok1 (hK.2.2.1 1) c_rd0 (hK.2.2.1 0) (by decide)) (by simp only [m_len]) ?_
  simp only [Option.toList, List.cons_append, List.nil_append]
  refine G.eqw c_mem1 ?_
  have hK0 := hK
  have hK := kinv_ms (i := 1) hK (hK.2.2.1 0)
  refine g_aload_n (i := 0) (pc := 11) dX3_mostFree_11 rfl rfl ?_
  refine g_getf (pc := 12) f_X3_23 dX3_mostFree_12 (c_0) rfl ?_
  refine g_bipush (pc := 15) dX3_mostFree_15 (by decide) ?_
  have hi := hK.2.2.1 1
  refine G.eqw c_self1 ?_
  refine g_v1 (pc := 17) okV_X1_doPress rfl l_X3_221 dX3_mostFree_17 (m_at0 c_ok1) hc_1 (by decide) (by decide) (Nat.le_of_ble_eq_true rfl) (t_X1_doPress c_ok1 hi (by omega)) (by simp only [m_len]) ?_
  simp only [Option.toList, List.cons_append, List.nil_append]
  refine G.eqw (c_mem1 (σ := dp (k_ms (k_setms (κ) 1 (k_ms (κ) 0)) 1) (32))) ?_
  refine G.eqS (v' := vI (dpv (k_ms (k_setms (κ) 1 (k_ms (κ) 0)) 1) (32))) rfl ?_
  have bb := dpv_rng (k_ms (k_setms (κ) 1 (k_ms (κ) 0)) 1) (32)
  have hK := kinv_ms (i := 1) hK (inv_dp hi (32))
  refine g_iret (pc := 20) rfl dX3_mostFree_20 (fun h => h) ?_
  have q5 : k_ms (k_setms κ 1 (k_ms κ 0)) 1 = k_ms κ 0 := ms_at _ _ _
  refine dx_i ?_ (inv_dp (hK0.2.2.1 0) 32) ?_
  · rw [q5]
    rfl
  · rw [q5, ms_ms]
set_option maxRecDepth 20000 in
set_option maxHeartbeats 4000000 in
theorem t_X3_writable {κ : KT} {δ : DT} {o : DT} (hK : KInv κ) {p : Int} (h_p : -2147483648 ≤ p ∧ p < 2147483648) : GM M_X3_writable false [vR 0, vI p] (cW κ δ o) 2 12 (dx (xR (xc_wa (k_ms κ 0) p) (cwv (k_ms κ 0) p) "java/lang/IndexOutOfBoundsException" "java/lang/IndexOutOfBoundsException" "java/lang/IndexOutOfBoundsException") κ δ o) := by
  show G _ none _ _ 0 [some (vR 0), some (vI p), none] [] _ _ _ _
  refine g_aload_n (i := 0) (pc := 0) dX3_writable_0 rfl rfl ?_
  refine g_iload_n (i := 1) (pc := 1) dX3_writable_1 rfl rfl ?_
  refine g_callV (pc := 2) (as := [vI (p)]) (bc' := 1) (bs' := 6) okV_X3_requireProcess rfl l_X3_185 dX3_writable_2 c_0 hc_3 rfl (Nat.le_of_ble_eq_true rfl) (by decide) (Nat.le_of_ble_eq_true rfl) (by omega) (t_X3_requireProcess hK (by omega)) (fun h => nomatch h) (fun r w' h => ?_) (fun E w' h => by
    obtain ⟨hq, rfl, rfl⟩ := dq_req2 h
    refine GX.out rfl ?_
    have h9 : xc_wa (k_ms κ 0) p = 1 := by
      unfold xc_wa
      rw [if_neg hq]
    unfold xR
    rw [if_neg (by omega), if_pos h9]
    exact dx_of (hK.2.2.1 1) rfl)
  obtain ⟨hq, rfl, rfl⟩ := dq_req1 h
  simp only [Option.toList, List.cons_append, List.nil_append]
  have h9 : xc_wa (k_ms κ 0) p = 0 := by
    unfold xc_wa
    rw [if_pos hq]
  unfold xR
  rw [if_pos h9]
  refine g_aload_n (i := 0) (pc := 5) dX3_writable_5 rfl rfl ?_
  refine g_getf (pc := 6) f_X3_23 dX3_writable_6 (c_0) rfl ?_
  refine g_aload_n (i := 0) (pc := 9) dX3_writable_9 rfl rfl ?_
  refine g_getf (pc := 10) f_X3_19 dX3_writable_10 (c_0) rfl ?_
  refine G.eqw c_self1 ?_
  refine g_vr (pc := 13) okV_X1_copyFrom rfl l_X3_232 dX3_writable_13 (m_at0 c_ok1) hc_1 (by decide) (by decide) (Nat.le_of_ble_eq_true rfl) (t_X1_copyFrom c_ok1 (hK.2.2.1 1) c_rd0 (hK.2.2.1 0) (by decide)) (by simp only [m_len]) ?_
  simp only [Option.toList, List.cons_append, List.nil_append]
  refine G.eqw c_mem1 ?_
  have hK0 := hK
  have hK := kinv_ms (i := 1) hK (hK.2.2.1 0)
  refine g_iconst (pc := 16) dX3_writable_16 ?_
  refine g_istore_n (i := 2) (pc := 17) dX3_writable_17 rfl (by decide) rfl ?_
  simp only [List.set_cons_succ, List.set_cons_zero]
  have hI := hK0.2.2.1 0
  refine lp_up (P := fun k => (∀ j : Nat, j < k → ¬ decide (dwv (itw (k_ms κ 0) p j) p j 1 = -1) = true) → G M_X3_writable none false false 18 [some (vR 0), some (vI p), some (vI k)] [] (cW (k_setms κ 1 (itw (k_ms κ 0) p k)) δ o) (2 - 1) (12 - 6) (dx (.inl (some (vI (cwv (k_ms κ 0) p)))) κ δ o)) 16 ?_ ?_ 0 (Nat.zero_le _) (fun i h => absurd h (Nat.not_lt_zero i))
  · intro hH
    have h8 : cwv (k_ms κ 0) p = 16 := by unfold cwv; rw [ff_none hH, if_pos rfl]
    show G _ _ _ _ _ _ _ (cW (k_setms κ 1 (itw (k_ms κ 0) p 16)) δ o) _ _ _
    have hi := inv_itw hI p 16
    refine g_iload_n (i := 2) (pc := 18) dX3_writable_18 rfl rfl ?_
    refine g_bipush (pc := 19) dX3_writable_19 (by decide) ?_
    refine g_c_ge (tgt := 44) (pc := 21) dX3_writable_21 (by omega) (by decide) (fun c21 => ?_) (fun c21 => absurd c21 (by omega))
    refine g_iload_n (i := 2) (pc := 44) dX3_writable_44 rfl rfl ?_
    refine g_iret (pc := 45) rfl dX3_writable_45 (fun h => h) ?_
    exact dx_i h8.symm hi rfl
  · intro k hk ih hH
    have hK := kinv_ms (i := 1) hK0 (inv_itw hI p k)
    refine g_iload_n (i := 2) (pc := 18) dX3_writable_18 rfl rfl ?_
    refine g_bipush (pc := 19) dX3_writable_19 (by decide) ?_
    refine g_c_ge (tgt := 44) (pc := 21) dX3_writable_21 (by omega) (by decide) (fun c21 => absurd c21 (by omega)) (fun c21 => ?_)
    refine g_aload_n (i := 0) (pc := 24) dX3_writable_24 rfl rfl ?_
    refine g_getf (pc := 25) f_X3_23 dX3_writable_25 (c_0) rfl ?_
    refine g_iload_n (i := 1) (pc := 28) dX3_writable_28 rfl rfl ?_
    refine g_iload_n (i := 2) (pc := 29) dX3_writable_29 rfl rfl ?_
    refine g_iconst (pc := 30) dX3_writable_30 ?_
    have hi := hK.2.2.1 1
    refine G.eqw c_self1 ?_
    refine g_v3 (pc := 31) okV_X1_doWrite rfl l_X3_181 dX3_writable_31 (m_at0 c_ok1) hc_1 (by decide) (by decide) (Nat.le_of_ble_eq_true rfl) (t_X1_doWrite c_ok1 hi (by omega) (by omega) (by omega)) (by simp only [m_len]) ?_
    simp only [Option.toList, List.cons_append, List.nil_append]
    refine G.eqw (c_mem1 (σ := dw (k_ms (k_setms κ 1 (itw (k_ms κ 0) p k)) 1) (p) ((k : Int)) (1))) ?_
    refine G.eqS (v' := vI (dwv (k_ms (k_setms κ 1 (itw (k_ms κ 0) p k)) 1) (p) ((k : Int)) (1))) rfl ?_
    have bb := dwv_rng (k_ms (k_setms κ 1 (itw (k_ms κ 0) p k)) 1) (p) ((k : Int)) (1)
    have hK := kinv_ms (i := 1) hK (inv_dw hi (p) ((k : Int)) (1))
    refine g_iconst (pc := 34) dX3_writable_34 ?_
    refine g_c_eq (tgt := 44) (pc := 35) dX3_writable_35 (by omega) (by decide) (fun c35 => ?_) (fun c35 => ?_)
    · skip
      refine g_iload_n (i := 2) (pc := 44) dX3_writable_44 rfl rfl ?_
      refine g_iret (pc := 45) rfl dX3_writable_45 (fun h => h) ?_
      have q5 : k_ms (k_setms κ 1 (itw (k_ms κ 0) p k)) 1 = itw (k_ms κ 0) p k := ms_at _ _ _
      rw [q5] at c35
      have h8 : cwv (k_ms κ 0) p = k := by
        have h7 : ff (fun k => decide (dwv (itw (k_ms κ 0) p k) p k 1 = -1)) 16 = k := ff_some (by rw [decide_eq_true_eq]; exact c35) hH hk
        unfold cwv
        rw [h7, if_neg (by omega)]
      refine dx_i h8.symm (inv_dw (inv_itw hI p k) p k 1) ?_
      rw [ms_ms, q5]
    · skip
      refine g_iinc (pc := 38) dX3_writable_38 rfl (by decide) rfl ?_
      simp only [List.set_cons_succ, List.set_cons_zero]
      refine g_goto (tgt := 18) (pc := 41) dX3_writable_41 (by decide) ?_
      have q5 : k_ms (k_setms κ 1 (itw (k_ms κ 0) p k)) 1 = itw (k_ms κ 0) p k := ms_at _ _ _
      rw [q5] at c35
      refine G.eqw (congrArg (fun z => cW z δ o) ?_) (ih (fun j hj => ?_))
      · rw [ms_ms, q5]
        rfl
      · rcases Nat.lt_or_ge j k with q | q
        · exact hH j q
        · rw [show j = k by omega, decide_eq_true_eq]
          exact c35
end FB
