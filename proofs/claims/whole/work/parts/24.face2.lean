/-! THE CLASS'S FACE: texts, scripts, simulations (printed by wip/whole/cls4.py, but for the first rows) -/
section FC
/-- a command of a text -/
def tS (σ : SG) (f : Nat → Int) (n i : Int) : SG := if sn f n i = 119 then dw σ (dg f n (i + 1)) (nu f n (i + 2)) (nu f n (i + 4)) else if sn f n i = 102 then df σ (dg f n (i + 1)) else if sn f n i = 120 then de σ (dg f n (i + 1)) else if sn f n i = 109 then dm σ (dg f n (i + 1)) (dg f n (i + 2)) else if sn f n i = 101 then s_setea σ 1 else σ
def tV (σ : SG) (f : Nat → Int) (n i : Int) : Bool := if sn f n i = 119 then decide (dwv σ (dg f n (i + 1)) (nu f n (i + 2)) (nu f n (i + 4)) ≠ -1) else if sn f n i = 102 then decide (dfv σ (dg f n (i + 1)) ≠ -1) else if sn f n i = 120 then decide (dev σ (dg f n (i + 1)) ≠ -1) else if sn f n i = 109 then decide (dmv σ (dg f n (i + 1)) (dg f n (i + 2)) ≠ -1) else decide (sn f n i = 101)
theorem inv_tS {σ : SG} (hi : Inv σ) (f : Nat → Int) (n i : Int) : Inv (tS σ f n i) := by
  unfold tS
  split
  · exact inv_dw hi _ _ _
  · split
    · exact inv_df hi _
    · split
      · exact inv_de hi _
      · split
        · exact inv_dm hi _ _
        · split
          · exact inv_ea hi (Or.inr rfl)
          · exact hi
def ldS (f : Nat → Int) (n : Int) : Nat → SG × Int
  | 0 => (s_new, 0)
  | k + 1 => if db (sn f n ((k : Int) + 1)) ≠ -1 then (tS (ldS f n k).1 f n ((k : Int) + 1), (ldS f n k).2 + (if tV (ldS f n k).1 f n ((k : Int) + 1) = true then 0 else 1)) else ldS f n k
theorem inv_ldS (f : Nat → Int) (n : Int) : ∀ k, Inv (ldS f n k).1
  | 0 => inv_new
  | k + 1 => by
    rw [ldS]
    split
    · exact inv_tS (inv_ldS f n k) f n _
    · exact inv_ldS f n k
theorem ldS_rng (f : Nat → Int) (n : Int) : ∀ k : Nat, 0 ≤ (ldS f n k).2 ∧ (ldS f n k).2 ≤ k
  | 0 => by simp [ldS]
  | k + 1 => by
    have h := ldS_rng f n k
    rw [ldS]
    split
    · dsimp only
      split <;> omega
    · omega
def xc_ld (κ : KT) : Int := if fe (k_sg κ) (k_ln κ) = -1 then 0 else 1
def xk_l0 (κ : KT) : KT := k_setfl (k_setsz (k_setms κ 0 s_new) 0) (va_up (va_up (k_fl κ) 0 0) 1 0)
def xk_ld (κ : KT) : KT := k_setms (xk_l0 κ) 0 (ldS (k_sg κ) (k_ln κ) (k_ln κ - 1).toNat).1
theorem kinv_l0 {κ : KT} (hK : KInv κ) : KInv (xk_l0 κ) := kinv_fl (κ := k_setfl (k_setsz (k_setms κ 0 s_new) 0) (va_up (k_fl κ) 0 0)) (k := 1) (x := 0) (kinv_fl (κ := k_setsz (k_setms κ 0 s_new) 0) (k := 0) (x := 0) (kinv_sz (z := 0) (kinv_ms hK inv_new) (by decide)) (Or.inl rfl)) (Or.inl rfl)
/-- scripts -/
def wl (s : Int) : Nat → Int
  | 0 => s
  | k + 1 => (wl s k).tdiv 100000
theorem wl_rng {s : Int} (h : 0 ≤ s) : ∀ k, 0 ≤ wl s k ∧ wl s k ≤ s
  | 0 => ⟨h, Int.le_refl _⟩
  | k + 1 => by
    have h1 := wl_rng h k
    rw [wl, Int.tdiv_eq_ediv_of_nonneg h1.1]
    omega
def cS (σ : SG) (d : Int) : SG := if d / 10000 = 1 then dw σ (d / 1000 % 10) (d / 10 % 100) (d % 10) else if d / 10000 = 2 then (if d % 1000 = 0 then df σ (d / 1000 % 10) else σ) else if d / 10000 = 3 then (if d % 1000 = 0 then de σ (d / 1000 % 10) else σ) else if d / 10000 = 4 then (if d % 100 = 0 then dm σ (d / 1000 % 10) (d / 100 % 10) else σ) else if d / 10000 = 5 then (if d % 100 = 0 then dtt σ (d / 1000 % 10) (d / 100 % 10) else σ) else if d / 10000 = 6 then (if d % 10000 < 100 then dp σ (d % 100) else σ) else σ
def cV (σ : SG) (d : Int) : Bool := if d / 10000 = 1 then decide (dwv σ (d / 1000 % 10) (d / 10 % 100) (d % 10) ≠ -1) else if d / 10000 = 2 then decide (d % 1000 = 0 ∧ dfv σ (d / 1000 % 10) ≠ -1) else if d / 10000 = 3 then decide (d % 1000 = 0 ∧ dev σ (d / 1000 % 10) ≠ -1) else if d / 10000 = 4 then decide (d % 100 = 0 ∧ dmv σ (d / 1000 % 10) (d / 100 % 10) ≠ -1) else if d / 10000 = 5 then decide (d % 100 = 0 ∧ ro σ (d / 1000 % 10) (d / 100 % 10) ≠ -1) else if d / 10000 = 6 then decide (d % 10000 < 100 ∧ dpv σ (d % 100) ≠ -1) else if d / 10000 = 7 then decide (b2 (hasPg σ (d / 1000 % 10) (d / 10 % 100)) = 1 ∧ vo σ (d / 1000 % 10) (d / 10 % 100) = d % 10) else if d / 10000 = 8 then decide (d % 100 ≤ 1 ∧ b2 (hasGr σ (d / 1000 % 10) (d / 100 % 10)) = 1 ∧ b2 (big σ (d / 1000 % 10) (d / 100 % 10)) = d % 100) else decide (d / 10000 = 9 ∧ d % 10000 < 100 ∧ d % 100 ≤ nff σ)
theorem inv_cS {σ : SG} (hi : Inv σ) (d : Int) : Inv (cS σ d) := by
  unfold cS
  (repeat' split)
  · exact inv_dw hi _ _ _
  · exact inv_df hi _
  · exact hi
  · exact inv_de hi _
  · exact hi
  · exact inv_dm hi _ _
  · exact hi
  · exact inv_dtt hi _ _
  · exact hi
  · exact inv_dp hi _
  · exact hi
  · exact hi
def cmd (n s : Int) (k : Nat) : Int := (wl s (n - 1 - k).toNat) % 100000
def itr (σ : SG) (n s : Int) : Nat → SG
  | 0 => σ
  | k + 1 => cS (itr σ n s k) (cmd n s k)
theorem inv_itr {σ : SG} (hi : Inv σ) (n s : Int) : ∀ k, Inv (itr σ n s k)
  | 0 => hi
  | k + 1 => inv_cS (inv_itr hi n s k) _
def xc_ru (n s : Int) : Int := if n < 1 ∨ 3 < n then 1 else if s < 0 ∨ wl s n.toNat ≠ 0 then 1 else 0
def ruv (σ : SG) (n s : Int) : Int := ff (fun k => !(cV (itr σ n s k) (cmd n s k))) n.toNat
/-- simulations -/
def sT (σ : SG) (r : Int) : SG := if hasP σ (r / 16 % 4) = true then (if r % 8 = 0 then df σ (r / 16 % 4) else if r % 8 = 1 then de σ (r / 16 % 4) else if r % 8 = 2 then dm σ (r / 16 % 4) (r / 64 % 4) else if r % 8 = 3 then dp σ (1 + r / 64 % 8) else dw σ (r / 16 % 4) (r / 64 % 16) (r / 1024 % 100)) else σ
theorem inv_sT {σ : SG} (hi : Inv σ) (r : Int) : Inv (sT σ r) := by
  unfold sT
  (repeat' split)
  · exact inv_df hi _
  · exact inv_de hi _
  · exact inv_dm hi _ _
  · exact inv_dp hi _
  · exact inv_dw hi _ _ _
  · exact hi
def sx (x : Int) : Nat → Int
  | 0 => x
  | k + 1 => sx x k * 6364136223846793005 + 1442695040888963407
def its (σ : SG) (x : Int) : Nat → SG
  | 0 => σ
  | k + 1 => sT (its σ x k) (b_ushrL (sx x (k + 1)) 33)
theorem inv_its {σ : SG} (hi : Inv σ) (x : Int) : ∀ k, Inv (its σ x k)
  | 0 => hi
  | k + 1 => inv_sT (inv_its hi x k) _
theorem shr_rng (x : Int) : 0 ≤ b_ushrL x 33 ∧ b_ushrL x 33 < 2147483648 := by
  have e0 : ((Int32.ofInt 33).toInt64.toUInt64 &&& Int64.toUInt64 63) = 33 := by decide
  unfold b_ushrL
  rw [e0]
  generalize (Int64.ofInt x).toUInt64 = y
  have h1 : (y >>> (33 : UInt64)).toNat < 2147483648 := by
    rw [UInt64.toNat_shiftRight]
    have := y.toNat_lt
    rw [show (33 : UInt64).toNat % 64 = 33 by decide, Nat.shiftRight_eq_div_pow]
    omega
  generalize y >>> (33 : UInt64) = z at h1
  have h2 : z.toInt64.toInt = (z.toNat : Int) := by
    show z.toBitVec.toInt = _
    rw [BitVec.toInt_eq_toNat_of_lt (by show 2 * z.toNat < 2 ^ 64; omega)]
    rfl
  rw [h2]
  omega
def mn9 (d : Int) : Int := if d < 999 then d else 999
def xc_si (m : Int) : Int := if m < 1 ∨ 99 < m then 1 else 0
def siv (σ : SG) (x m : Int) : Int := 1000 * mn9 (wr (s_co (its σ x m.toNat) - s_co σ)) + mn9 (wr (s_te (its σ x m.toNat) - s_te σ))
theorem b_cmp_s (x y : Int) : (b_cmp x y < 0 ↔ x < y) ∧ (b_cmp x y = 0 ↔ x = y) ∧ -1 ≤ b_cmp x y ∧ b_cmp x y ≤ 1 := by
  unfold b_cmp
  (repeat' split) <;> omega
set_option maxRecDepth 20000 in
set_option maxHeartbeats 4000000 in
theorem t_X3_doCommandOfText {κ : KT} {δ : DT} {o : Nat → Int} (hK : KInv κ) {i : Int} (h_i : 0 ≤ i ∧ i < 200) : GM M_X3_doCommandOfText false [vR 0, vI i] (cW κ δ o) 0 0 (dt (some (vI (b2 (tV (k_ms κ 0) (k_sg κ) (k_ln κ) i)))) (cW (k_setms κ 0 (tS (k_ms κ 0) (k_sg κ) (k_ln κ) i)) δ o)) := by
  show G _ none _ _ 0 [some (vR 0), some (vI i), none] [] _ _ _ _
  refine g_aload_n (i := 0) (pc := 0) dX3_doCommandOfText_0 rfl rfl ?_
  refine g_getf (pc := 1) f_X3_10 dX3_doCommandOfText_1 (c_0) rfl ?_
  refine g_iload_n (i := 1) (pc := 4) dX3_doCommandOfText_4 rfl rfl ?_
  refine g_iconst (pc := 5) dX3_doCommandOfText_5 ?_
  refine g_iadd (pc := 6) dX3_doCommandOfText_6 ?_
  refine g_v1 (pc := 7) okV_X2_digit rfl l_X3_288 dX3_doCommandOfText_7 (c_1) hc_2 (by decide) (by decide) (Nat.le_of_ble_eq_true rfl) (t_X2_digit hK (by omega)) rfl ?_
  simp only [Option.toList, List.cons_append, List.nil_append]
  have bb := dg_rng (k_sg (κ)) (k_ln (κ)) ((i + 1))
  refine g_istore_n (i := 2) (pc := 10) dX3_doCommandOfText_10 rfl (by decide) rfl ?_
  simp only [List.set_cons_succ, List.set_cons_zero]
  refine g_aload_n (i := 0) (pc := 11) dX3_doCommandOfText_11 rfl rfl ?_
  refine g_getf (pc := 12) f_X3_10 dX3_doCommandOfText_12 (c_0) rfl ?_
  refine g_iload_n (i := 1) (pc := 15) dX3_doCommandOfText_15 rfl rfl ?_
  refine g_v1 (pc := 16) okV_X2_sign rfl l_X3_75 dX3_doCommandOfText_16 (c_1) hc_2 (by decide) (by decide) (Nat.le_of_ble_eq_true rfl) (t_X2_sign hK (by omega)) rfl ?_
  simp only [Option.toList, List.cons_append, List.nil_append]
  have bb := sn_rng hK.1 (k_ln (κ)) (i)
  rcases (by omega : (sn (k_sg (κ)) (k_ln (κ)) (i)) = 101 ∨ (sn (k_sg (κ)) (k_ln (κ)) (i)) = 102 ∨ (sn (k_sg (κ)) (k_ln (κ)) (i)) = 109 ∨ (sn (k_sg (κ)) (k_ln (κ)) (i)) = 119 ∨ (sn (k_sg (κ)) (k_ln (κ)) (i)) = 120 ∨ (¬ 101 = (sn (k_sg (κ)) (k_ln (κ)) (i)) ∧ ¬ 102 = (sn (k_sg (κ)) (k_ln (κ)) (i)) ∧ ¬ 109 = (sn (k_sg (κ)) (k_ln (κ)) (i)) ∧ ¬ 119 = (sn (k_sg (κ)) (k_ln (κ)) (i)) ∧ ¬ 120 = (sn (k_sg (κ)) (k_ln (κ)) (i)))) with ew19 | ew19 | ew19 | ew19 | ew19 | ⟨ew19_101, ew19_102, ew19_109, ew19_119, ew19_120⟩
  · refine g_ls (off := 151) (tgt := 170) (pc := 19) dX3_doCommandOfText_19 (by omega) (by decide) (by rw [ew19]; rfl) (by decide) ?_
    refine g_aload_n (i := 0) (pc := 170) dX3_doCommandOfText_170 rfl rfl ?_
    refine g_getf (pc := 171) f_X3_19 dX3_doCommandOfText_171 (c_0) rfl ?_
    refine g_iconst (pc := 174) dX3_doCommandOfText_174 ?_
    refine g_put (pc := 175) ft_X3_117 dX3_doCommandOfText_175 (c_rd0.1) (Nat.le_of_ble_eq_true rfl) (g_zn (by omega)) (g_zf (by omega)) (fun h => nomatch h) ?_
    refine G.eqw w_ea0 ?_
    refine g_iconst (pc := 178) dX3_doCommandOfText_178 ?_
    refine g_zret (pc := 179) rfl dX3_doCommandOfText_179 (by omega) (fun h => h) ?_
    refine dt_i ?_ ?_
    · rw [b2_t (b := tV (k_ms κ 0) (k_sg κ) (k_ln κ) i) (by unfold tV; rw [if_neg (by omega), if_neg (by omega), if_neg (by omega), if_neg (by omega), decide_eq_true_eq]; omega)]
    · unfold tS; rw [if_neg (by omega), if_neg (by omega), if_neg (by omega), if_neg (by omega), if_pos (by omega)]
  · refine g_ls (off := 87) (tgt := 106) (pc := 19) dX3_doCommandOfText_19 (by omega) (by decide) (by rw [ew19]; rfl) (by decide) ?_
    refine g_aload_n (i := 0) (pc := 106) dX3_doCommandOfText_106 rfl rfl ?_
    refine g_getf (pc := 107) f_X3_19 dX3_doCommandOfText_107 (c_0) rfl ?_
    refine g_iload_n (i := 2) (pc := 110) dX3_doCommandOfText_110 rfl rfl ?_
    have hi := hK.2.2.1 0
    refine G.eqw c_self0 ?_
    refine g_v1 (pc := 111) okV_X1_doFork rfl l_X3_194 dX3_doCommandOfText_111 (m_at0 c_ok0) hc_1 (by decide) (by decide) (Nat.le_of_ble_eq_true rfl) (t_X1_doFork c_ok0 hi (by omega)) (by simp only [m_len]) ?_
    simp only [Option.toList, List.cons_append, List.nil_append]
    refine G.eqw (c_mem0 (σ := df (k_ms (κ) 0) ((dg (k_sg (κ)) (k_ln (κ)) ((i + 1)))))) ?_
    refine G.eqS (v' := vI (dfv (k_ms (κ) 0) ((dg (k_sg (κ)) (k_ln (κ)) ((i + 1)))))) rfl ?_
    have bb := dfv_rng (k_ms (κ) 0) ((dg (k_sg (κ)) (k_ln (κ)) ((i + 1))))
    have hK := kinv_ms (i := 0) hK (inv_df hi ((dg (k_sg (κ)) (k_ln (κ)) ((i + 1)))))
    refine g_iconst (pc := 114) dX3_doCommandOfText_114 ?_
    refine g_c_eq (tgt := 122) (pc := 115) dX3_doCommandOfText_115 (by omega) (by decide) (fun c115 => ?_) (fun c115 => ?_)
    · skip
      refine g_iconst (pc := 122) dX3_doCommandOfText_122 ?_
      refine g_zret (pc := 123) rfl dX3_doCommandOfText_123 (by omega) (fun h => h) ?_
      first
      | (refine dt_i ?_ ?_
         · rw [b2_t (b := tV (k_ms κ 0) (k_sg κ) (k_ln κ) i) (by unfold tV; rw [if_neg (by omega), if_pos (by omega), decide_eq_true_eq]; omega)]
         · unfold tS; rw [if_neg (by omega), if_pos (by omega)])
      | (refine dt_i ?_ ?_
         · rw [b2_f (b := tV (k_ms κ 0) (k_sg κ) (k_ln κ) i) (by unfold tV; rw [if_neg (by omega), if_pos (by omega), decide_eq_true_eq]; omega)]
         · unfold tS; rw [if_neg (by omega), if_pos (by omega)])
    · skip
      refine g_iconst (pc := 118) dX3_doCommandOfText_118 ?_
      refine g_goto (tgt := 123) (pc := 119) dX3_doCommandOfText_119 (by decide) ?_
      refine g_zret (pc := 123) rfl dX3_doCommandOfText_123 (by omega) (fun h => h) ?_
      first
      | (refine dt_i ?_ ?_
         · rw [b2_t (b := tV (k_ms κ 0) (k_sg κ) (k_ln κ) i) (by unfold tV; rw [if_neg (by omega), if_pos (by omega), decide_eq_true_eq]; omega)]
         · unfold tS; rw [if_neg (by omega), if_pos (by omega)])
      | (refine dt_i ?_ ?_
         · rw [b2_f (b := tV (k_ms κ 0) (k_sg κ) (k_ln κ) i) (by unfold tV; rw [if_neg (by omega), if_pos (by omega), decide_eq_true_eq]; omega)]
         · unfold tS; rw [if_neg (by omega), if_pos (by omega)])
  · refine g_ls (off := 123) (tgt := 142) (pc := 19) dX3_doCommandOfText_19 (by omega) (by decide) (by rw [ew19]; rfl) (by decide) ?_
    refine g_aload_n (i := 0) (pc := 142) dX3_doCommandOfText_142 rfl rfl ?_
    refine g_getf (pc := 143) f_X3_19 dX3_doCommandOfText_143 (c_0) rfl ?_
    refine g_iload_n (i := 2) (pc := 146) dX3_doCommandOfText_146 rfl rfl ?_
    refine g_aload_n (i := 0) (pc := 147) dX3_doCommandOfText_147 rfl rfl ?_
    refine g_getf (pc := 148) f_X3_10 dX3_doCommandOfText_148 (c_0) rfl ?_
    refine g_iload_n (i := 1) (pc := 151) dX3_doCommandOfText_151 rfl rfl ?_
    refine g_iconst (pc := 152) dX3_doCommandOfText_152 ?_
    refine g_iadd (pc := 153) dX3_doCommandOfText_153 ?_
    refine g_v1 (pc := 154) okV_X2_digit rfl l_X3_288 dX3_doCommandOfText_154 (c_1) hc_2 (by decide) (by decide) (Nat.le_of_ble_eq_true rfl) (t_X2_digit hK (by omega)) rfl ?_
    simp only [Option.toList, List.cons_append, List.nil_append]
    have bb := dg_rng (k_sg (κ)) (k_ln (κ)) ((i + 2))
    have hi := hK.2.2.1 0
    refine G.eqw c_self0 ?_
    refine g_v2 (pc := 157) okV_X1_doMarry rfl l_X3_211 dX3_doCommandOfText_157 (m_at0 c_ok0) hc_1 (by decide) (by decide) (Nat.le_of_ble_eq_true rfl) (t_X1_doMarry c_ok0 hi (by omega) (by omega)) (by simp only [m_len]) ?_
    simp only [Option.toList, List.cons_append, List.nil_append]
    refine G.eqw (c_mem0 (σ := dm (k_ms (κ) 0) ((dg (k_sg (κ)) (k_ln (κ)) ((i + 1)))) ((dg (k_sg (κ)) (k_ln (κ)) ((i + 2)))))) ?_
    refine G.eqS (v' := vI (dmv (k_ms (κ) 0) ((dg (k_sg (κ)) (k_ln (κ)) ((i + 1)))) ((dg (k_sg (κ)) (k_ln (κ)) ((i + 2)))))) rfl ?_
    have bb := dmv_rng (k_ms (κ) 0) ((dg (k_sg (κ)) (k_ln (κ)) ((i + 1)))) ((dg (k_sg (κ)) (k_ln (κ)) ((i + 2))))
    have hK := kinv_ms (i := 0) hK (inv_dm hi ((dg (k_sg (κ)) (k_ln (κ)) ((i + 1)))) ((dg (k_sg (κ)) (k_ln (κ)) ((i + 2)))))
    refine g_iconst (pc := 160) dX3_doCommandOfText_160 ?_
    refine g_c_eq (tgt := 168) (pc := 161) dX3_doCommandOfText_161 (by omega) (by decide) (fun c161 => ?_) (fun c161 => ?_)
    · skip
      refine g_iconst (pc := 168) dX3_doCommandOfText_168 ?_
      refine g_zret (pc := 169) rfl dX3_doCommandOfText_169 (by omega) (fun h => h) ?_
      first
      | (refine dt_i ?_ ?_
         · rw [b2_t (b := tV (k_ms κ 0) (k_sg κ) (k_ln κ) i) (by unfold tV; rw [if_neg (by omega), if_neg (by omega), if_neg (by omega), if_pos (by omega), decide_eq_true_eq]; omega)]
         · unfold tS; rw [if_neg (by omega), if_neg (by omega), if_neg (by omega), if_pos (by omega)])
      | (refine dt_i ?_ ?_
         · rw [b2_f (b := tV (k_ms κ 0) (k_sg κ) (k_ln κ) i) (by unfold tV; rw [if_neg (by omega), if_neg (by omega), if_neg (by omega), if_pos (by omega), decide_eq_true_eq]; omega)]
         · unfold tS; rw [if_neg (by omega), if_neg (by omega), if_neg (by omega), if_pos (by omega)])
    · skip
      refine g_iconst (pc := 164) dX3_doCommandOfText_164 ?_
      refine g_goto (tgt := 169) (pc := 165) dX3_doCommandOfText_165 (by decide) ?_
      refine g_zret (pc := 169) rfl dX3_doCommandOfText_169 (by omega) (fun h => h) ?_
      first
      | (refine dt_i ?_ ?_
         · rw [b2_t (b := tV (k_ms κ 0) (k_sg κ) (k_ln κ) i) (by unfold tV; rw [if_neg (by omega), if_neg (by omega), if_neg (by omega), if_pos (by omega), decide_eq_true_eq]; omega)]
         · unfold tS; rw [if_neg (by omega), if_neg (by omega), if_neg (by omega), if_pos (by omega)])
      | (refine dt_i ?_ ?_
         · rw [b2_f (b := tV (k_ms κ 0) (k_sg κ) (k_ln κ) i) (by unfold tV; rw [if_neg (by omega), if_neg (by omega), if_neg (by omega), if_pos (by omega), decide_eq_true_eq]; omega)]
         · unfold tS; rw [if_neg (by omega), if_neg (by omega), if_neg (by omega), if_pos (by omega)])
  · refine g_ls (off := 49) (tgt := 68) (pc := 19) dX3_doCommandOfText_19 (by omega) (by decide) (by rw [ew19]; rfl) (by decide) ?_
    refine g_aload_n (i := 0) (pc := 68) dX3_doCommandOfText_68 rfl rfl ?_
    refine g_getf (pc := 69) f_X3_19 dX3_doCommandOfText_69 (c_0) rfl ?_
    refine g_iload_n (i := 2) (pc := 72) dX3_doCommandOfText_72 rfl rfl ?_
    refine g_aload_n (i := 0) (pc := 73) dX3_doCommandOfText_73 rfl rfl ?_
    refine g_getf (pc := 74) f_X3_10 dX3_doCommandOfText_74 (c_0) rfl ?_
    refine g_iload_n (i := 1) (pc := 77) dX3_doCommandOfText_77 rfl rfl ?_
    refine g_iconst (pc := 78) dX3_doCommandOfText_78 ?_
    refine g_iadd (pc := 79) dX3_doCommandOfText_79 ?_
    refine g_v1 (pc := 80) okV_X2_number rfl l_X3_291 dX3_doCommandOfText_80 (c_1) hc_2 (by decide) (by decide) (Nat.le_of_ble_eq_true rfl) (t_X2_number hK (by omega)) rfl ?_
    simp only [Option.toList, List.cons_append, List.nil_append]
    have bb := nu_rng (k_sg (κ)) (k_ln (κ)) ((i + 2))
    refine g_aload_n (i := 0) (pc := 83) dX3_doCommandOfText_83 rfl rfl ?_
    refine g_getf (pc := 84) f_X3_10 dX3_doCommandOfText_84 (c_0) rfl ?_
    refine g_iload_n (i := 1) (pc := 87) dX3_doCommandOfText_87 rfl rfl ?_
    refine g_iconst (pc := 88) dX3_doCommandOfText_88 ?_
    refine g_iadd (pc := 89) dX3_doCommandOfText_89 ?_
    refine g_v1 (pc := 90) okV_X2_number rfl l_X3_291 dX3_doCommandOfText_90 (c_1) hc_2 (by decide) (by decide) (Nat.le_of_ble_eq_true rfl) (t_X2_number hK (by omega)) rfl ?_
    simp only [Option.toList, List.cons_append, List.nil_append]
    have bb := nu_rng (k_sg (κ)) (k_ln (κ)) ((i + 4))
    have hi := hK.2.2.1 0
    refine G.eqw c_self0 ?_
    refine g_v3 (pc := 93) okV_X1_doWrite rfl l_X3_181 dX3_doCommandOfText_93 (m_at0 c_ok0) hc_1 (by decide) (by decide) (Nat.le_of_ble_eq_true rfl) (t_X1_doWrite c_ok0 hi (by omega) (by omega) (by omega)) (by simp only [m_len]) ?_
    simp only [Option.toList, List.cons_append, List.nil_append]
    refine G.eqw (c_mem0 (σ := dw (k_ms (κ) 0) ((dg (k_sg (κ)) (k_ln (κ)) ((i + 1)))) ((nu (k_sg (κ)) (k_ln (κ)) ((i + 2)))) ((nu (k_sg (κ)) (k_ln (κ)) ((i + 4)))))) ?_
    refine G.eqS (v' := vI (dwv (k_ms (κ) 0) ((dg (k_sg (κ)) (k_ln (κ)) ((i + 1)))) ((nu (k_sg (κ)) (k_ln (κ)) ((i + 2)))) ((nu (k_sg (κ)) (k_ln (κ)) ((i + 4)))))) rfl ?_
    have bb := dwv_rng (k_ms (κ) 0) ((dg (k_sg (κ)) (k_ln (κ)) ((i + 1)))) ((nu (k_sg (κ)) (k_ln (κ)) ((i + 2)))) ((nu (k_sg (κ)) (k_ln (κ)) ((i + 4))))
    have hK := kinv_ms (i := 0) hK (inv_dw hi ((dg (k_sg (κ)) (k_ln (κ)) ((i + 1)))) ((nu (k_sg (κ)) (k_ln (κ)) ((i + 2)))) ((nu (k_sg (κ)) (k_ln (κ)) ((i + 4)))))
    refine g_iconst (pc := 96) dX3_doCommandOfText_96 ?_
    refine g_c_eq (tgt := 104) (pc := 97) dX3_doCommandOfText_97 (by omega) (by decide) (fun c97 => ?_) (fun c97 => ?_)
    · skip
      refine g_iconst (pc := 104) dX3_doCommandOfText_104 ?_
      refine g_zret (pc := 105) rfl dX3_doCommandOfText_105 (by omega) (fun h => h) ?_
      first
      | (refine dt_i ?_ ?_
         · rw [b2_t (b := tV (k_ms κ 0) (k_sg κ) (k_ln κ) i) (by unfold tV; rw [if_pos (by omega), decide_eq_true_eq]; omega)]
         · unfold tS; rw [if_pos (by omega)])
      | (refine dt_i ?_ ?_
         · rw [b2_f (b := tV (k_ms κ 0) (k_sg κ) (k_ln κ) i) (by unfold tV; rw [if_pos (by omega), decide_eq_true_eq]; omega)]
         · unfold tS; rw [if_pos (by omega)])
    · skip
      refine g_iconst (pc := 100) dX3_doCommandOfText_100 ?_
      refine g_goto (tgt := 105) (pc := 101) dX3_doCommandOfText_101 (by decide) ?_
      refine g_zret (pc := 105) rfl dX3_doCommandOfText_105 (by omega) (fun h => h) ?_
      first
      | (refine dt_i ?_ ?_
         · rw [b2_t (b := tV (k_ms κ 0) (k_sg κ) (k_ln κ) i) (by unfold tV; rw [if_pos (by omega), decide_eq_true_eq]; omega)]
         · unfold tS; rw [if_pos (by omega)])
      | (refine dt_i ?_ ?_
         · rw [b2_f (b := tV (k_ms κ 0) (k_sg κ) (k_ln κ) i) (by unfold tV; rw [if_pos (by omega), decide_eq_true_eq]; omega)]
         · unfold tS; rw [if_pos (by omega)])
  · refine g_ls (off := 105) (tgt := 124) (pc := 19) dX3_doCommandOfText_19 (by omega) (by decide) (by rw [ew19]; rfl) (by decide) ?_
    refine g_aload_n (i := 0) (pc := 124) dX3_doCommandOfText_124 rfl rfl ?_
    refine g_getf (pc := 125) f_X3_19 dX3_doCommandOfText_125 (c_0) rfl ?_
    refine g_iload_n (i := 2) (pc := 128) dX3_doCommandOfText_128 rfl rfl ?_
    have hi := hK.2.2.1 0
    refine G.eqw c_self0 ?_
    refine g_v1 (pc := 129) okV_X1_doExit rfl l_X3_203 dX3_doCommandOfText_129 (m_at0 c_ok0) hc_1 (by decide) (by decide) (Nat.le_of_ble_eq_true rfl) (t_X1_doExit c_ok0 hi (by omega)) (by simp only [m_len]) ?_
    simp only [Option.toList, List.cons_append, List.nil_append]
    refine G.eqw (c_mem0 (σ := de (k_ms (κ) 0) ((dg (k_sg (κ)) (k_ln (κ)) ((i + 1)))))) ?_
    refine G.eqS (v' := vI (dev (k_ms (κ) 0) ((dg (k_sg (κ)) (k_ln (κ)) ((i + 1)))))) rfl ?_
    have bb := dev_rng (k_ms (κ) 0) ((dg (k_sg (κ)) (k_ln (κ)) ((i + 1))))
    have hK := kinv_ms (i := 0) hK (inv_de hi ((dg (k_sg (κ)) (k_ln (κ)) ((i + 1)))))
    refine g_iconst (pc := 132) dX3_doCommandOfText_132 ?_
    refine g_c_eq (tgt := 140) (pc := 133) dX3_doCommandOfText_133 (by omega) (by decide) (fun c133 => ?_) (fun c133 => ?_)
    · skip
      refine g_iconst (pc := 140) dX3_doCommandOfText_140 ?_
      refine g_zret (pc := 141) rfl dX3_doCommandOfText_141 (by omega) (fun h => h) ?_
      first
      | (refine dt_i ?_ ?_
         · rw [b2_t (b := tV (k_ms κ 0) (k_sg κ) (k_ln κ) i) (by unfold tV; rw [if_neg (by omega), if_neg (by omega), if_pos (by omega), decide_eq_true_eq]; omega)]
         · unfold tS; rw [if_neg (by omega), if_neg (by omega), if_pos (by omega)])
      | (refine dt_i ?_ ?_
         · rw [b2_f (b := tV (k_ms κ 0) (k_sg κ) (k_ln κ) i) (by unfold tV; rw [if_neg (by omega), if_neg (by omega), if_pos (by omega), decide_eq_true_eq]; omega)]
         · unfold tS; rw [if_neg (by omega), if_neg (by omega), if_pos (by omega)])
    · skip
      refine g_iconst (pc := 136) dX3_doCommandOfText_136 ?_
      refine g_goto (tgt := 141) (pc := 137) dX3_doCommandOfText_137 (by decide) ?_
      refine g_zret (pc := 141) rfl dX3_doCommandOfText_141 (by omega) (fun h => h) ?_
      first
      | (refine dt_i ?_ ?_
         · rw [b2_t (b := tV (k_ms κ 0) (k_sg κ) (k_ln κ) i) (by unfold tV; rw [if_neg (by omega), if_neg (by omega), if_pos (by omega), decide_eq_true_eq]; omega)]
         · unfold tS; rw [if_neg (by omega), if_neg (by omega), if_pos (by omega)])
      | (refine dt_i ?_ ?_
         · rw [b2_f (b := tV (k_ms κ 0) (k_sg κ) (k_ln κ) i) (by unfold tV; rw [if_neg (by omega), if_neg (by omega), if_pos (by omega), decide_eq_true_eq]; omega)]
         · unfold tS; rw [if_neg (by omega), if_neg (by omega), if_pos (by omega)])
  · refine g_ls (off := 161) (tgt := 180) (pc := 19) dX3_doCommandOfText_19 (by omega) (by decide) ?_ (by decide) ?_
    · simp only [Op.lookupswitch.offset_cons, Op.lookupswitch.offset_nil, if_neg ew19_101, if_neg ew19_102, if_neg ew19_109, if_neg ew19_119, if_neg ew19_120]
    refine g_iconst (pc := 180) dX3_doCommandOfText_180 ?_
    refine g_zret (pc := 181) rfl dX3_doCommandOfText_181 (by omega) (fun h => h) ?_
    refine dt_i ?_ ?_
    · rw [b2_f (b := tV (k_ms κ 0) (k_sg κ) (k_ln κ) i) (by unfold tV; rw [if_neg (by omega), if_neg (by omega), if_neg (by omega), if_neg (by omega), decide_eq_true_eq]; omega)]
    · unfold tS; rw [if_neg (by omega), if_neg (by omega), if_neg (by omega), if_neg (by omega), if_neg (by omega), k_same]
set_option maxRecDepth 20000 in
set_option maxHeartbeats 4000000 in
theorem t_X3_load {κ : KT} {δ : DT} {o : Nat → Int} (hK : KInv κ) : GM M_X3_load false [vR 0] (cW κ δ o) 2 12 (dq (xR (xc_ld κ) ((ldS (k_sg κ) (k_ln κ) (k_ln κ - 1).toNat).2) "java/lang/IllegalStateException" "java/lang/IllegalStateException" "java/lang/IllegalStateException") (cW (if xc_ld κ = 0 then xk_ld κ else κ) δ o)) := by
  show G _ none _ _ 0 [some (vR 0), none, none] [] _ _ _ _
  refine g_aload_n (i := 0) (pc := 0) dX3_load_0 rfl rfl ?_
  refine g_getf (pc := 1) f_X3_10 dX3_load_1 (c_0) rfl ?_
  refine g_v0 (pc := 4) okV_X2_firstError rfl l_X3_64 dX3_load_4 (c_1) hc_2 (by decide) (by decide) (Nat.le_of_ble_eq_true rfl) (t_X2_firstError hK) rfl ?_
  simp only [Option.toList, List.cons_append, List.nil_append]
  have bb := fe_rng (f := k_sg (κ)) (n := k_ln (κ)) hK.2.1.1
  have bL := hK.2.1
  refine g_iconst (pc := 7) dX3_load_7 ?_
  refine g_c_eq (tgt := 21) (pc := 8) dX3_load_8 (by omega) (by decide) (fun c8 => ?_) (fun c8 => ?_)
  · skip
    have h9 : xc_ld κ = 0 := by unfold xc_ld; rw [if_pos (by omega)]
    have hL1 : 1 ≤ k_ln κ := by
      rcases (by omega : 1 ≤ k_ln κ ∨ k_ln κ = 0) with q | q
      · exact q
      · exfalso
        have hf : fe (k_sg κ) (k_ln κ) = -1 := by omega
        unfold fe sn at hf
        rw [if_pos (by rw [if_neg (by omega)]; decide)] at hf
        cases hf
    refine G.mono (Q := dt (some (vI (ldS (k_sg κ) (k_ln κ) (k_ln κ - 1).toNat).2)) (cW (xk_ld κ) δ o)) ?_ (fun r w' h => by
      obtain ⟨rfl, rfl⟩ := h
      exact dq_0 h9 rfl (by rw [if_pos h9]))
    have hKK := hK
    refine g_aload_n (i := 0) (pc := 21) dX3_load_21 rfl rfl ?_
    refine g_getf (pc := 22) f_X3_19 dX3_load_22 (c_0) rfl ?_
    have hi := hK.2.2.1 0
    refine G.eqw c_self0 ?_
    refine g_v0 (pc := 25) okV_X1_beginAnew rfl l_X3_69 dX3_load_25 (m_at0 c_ok0) hc_1 (by decide) (by decide) (Nat.le_of_ble_eq_true rfl) (t_X1_beginAnew c_ok0 ⟨hi.2.1, fun k hk => us_out hi hk, hi.2.2.2.2.2.1⟩) (by simp only [m_len]) ?_
    simp only [Option.toList, List.cons_append, List.nil_append]
    refine G.eqw (c_mem0 (σ := s_new)) ?_
    have hK := kinv_ms (i := 0) hK (inv_new)
    refine g_aload_n (i := 0) (pc := 28) dX3_load_28 rfl rfl ?_
    refine g_getf (pc := 29) f_X3_29 dX3_load_29 (c_0) rfl ?_
    refine g_v0 (pc := 32) okV_X0_forget rfl l_X3_72 dX3_load_32 (c_11) hc_0 (by decide) (by decide) (Nat.le_of_ble_eq_true rfl) (t_X0_forget hK) (by rw [c_len, c_len]) ?_
    simp only [Option.toList, List.cons_append, List.nil_append]
    have hK := kinv_sz hK (z := 0) (by decide)
    refine g_iconst (pc := 35) dX3_load_35 ?_
    refine g_istore_n (i := 1) (pc := 36) dX3_load_36 rfl (by decide) rfl ?_
    simp only [List.set_cons_succ, List.set_cons_zero]
    refine g_iload_n (i := 1) (pc := 37) dX3_load_37 rfl rfl ?_
    refine g_iconst (pc := 38) dX3_load_38 ?_
    refine g_c_ge (tgt := 55) (pc := 39) dX3_load_39 (by omega) (by decide) (fun c39 => absurd c39 (by omega)) (fun c39 => ?_)
    refine g_aload_n (i := 0) (pc := 42) dX3_load_42 rfl rfl ?_
    refine g_getf (pc := 43) f_X3_37 dX3_load_43 (c_0) rfl ?_
    refine g_iload_n (i := 1) (pc := 46) dX3_load_46 rfl rfl ?_
    refine g_iconst (pc := 47) dX3_load_47 ?_
    refine g_zast (pc := 48) dX3_load_48 (c_78) (by omega) (by omega) ?_
    refine G.eqw w_fl ?_
    refine g_iinc (pc := 49) dX3_load_49 rfl (by decide) rfl ?_
    simp only [List.set_cons_succ, List.set_cons_zero]
    refine g_goto (tgt := 37) (pc := 52) dX3_load_52 (by decide) ?_
    refine g_iload_n (i := 1) (pc := 37) dX3_load_37 rfl rfl ?_
    refine g_iconst (pc := 38) dX3_load_38 ?_
    refine g_c_ge (tgt := 55) (pc := 39) dX3_load_39 (by omega) (by decide) (fun c39 => absurd c39 (by omega)) (fun c39 => ?_)
    refine g_aload_n (i := 0) (pc := 42) dX3_load_42 rfl rfl ?_
    refine g_getf (pc := 43) f_X3_37 dX3_load_43 (c_0) rfl ?_
    refine g_iload_n (i := 1) (pc := 46) dX3_load_46 rfl rfl ?_
    refine g_iconst (pc := 47) dX3_load_47 ?_
    refine g_zast (pc := 48) dX3_load_48 (c_78) (by omega) (by omega) ?_
    refine G.eqw w_fl ?_
    refine g_iinc (pc := 49) dX3_load_49 rfl (by decide) rfl ?_
    simp only [List.set_cons_succ, List.set_cons_zero]
    refine g_goto (tgt := 37) (pc := 52) dX3_load_52 (by decide) ?_
    refine g_iload_n (i := 1) (pc := 37) dX3_load_37 rfl rfl ?_
    refine g_iconst (pc := 38) dX3_load_38 ?_
    refine g_c_ge (tgt := 55) (pc := 39) dX3_load_39 (by omega) (by decide) (fun c39 => ?_) (fun c39 => absurd c39 (by omega))
    have hK := kinv_l0 hKK
    refine G.eqw (show _ = cW (xk_l0 κ) δ o from rfl) ?_
    refine g_iconst (pc := 55) dX3_load_55 ?_
    refine g_istore_n (i := 1) (pc := 56) dX3_load_56 rfl (by decide) rfl ?_
    simp only [List.set_cons_succ, List.set_cons_zero]
    refine g_iconst (pc := 57) dX3_load_57 ?_
    refine g_istore_n (i := 2) (pc := 58) dX3_load_58 rfl (by decide) rfl ?_
    simp only [List.set_cons_succ, List.set_cons_zero]
    refine G.eqw (show _ = cW (k_setms (xk_l0 κ) 0 (ldS (k_sg κ) (k_ln κ) 0).1) δ o from congrArg (fun z => cW z δ o) (k_same (xk_l0 κ) 0).symm) ?_
    refine G.eqL (L' := [some (vR 0), some (vI (ldS (k_sg κ) (k_ln κ) 0).2), some (vI (((0 : Nat) : Int) + 1))]) rfl ?_
    refine lp_up (P := fun k => G M_X3_load none false false 59 [some (vR 0), some (vI (ldS (k_sg κ) (k_ln κ) k).2), some (vI ((k : Int) + 1))] [] (cW (k_setms (xk_l0 κ) 0 (ldS (k_sg κ) (k_ln κ) k).1) δ o) 2 12 (dt (some (vI (ldS (k_sg κ) (k_ln κ) (k_ln κ - 1).toNat).2)) (cW (xk_ld κ) δ o))) (k_ln κ - 1).toNat ?_ ?_ 0 (Nat.zero_le _)
    · show G _ _ _ _ _ _ _ _ _ _ _
      have hL2 := hKK.2.1
      have hK := kinv_ms (i := 0) hK (inv_ldS (k_sg κ) (k_ln κ) (k_ln κ - 1).toNat)
      refine g_iload_n (i := 2) (pc := 59) dX3_load_59 rfl rfl ?_
      refine g_aload_n (i := 0) (pc := 60) dX3_load_60 rfl rfl ?_
      refine g_getf (pc := 61) f_X3_10 dX3_load_61 (c_0) rfl ?_
      refine g_v0 (pc := 64) okV_X2_length rfl l_X3_48 dX3_load_64 (c_1) hc_2 (by decide) (by decide) (Nat.le_of_ble_eq_true rfl) (t_X2_length hK) rfl ?_
      simp only [Option.toList, List.cons_append, List.nil_append]
      refine G.eqS (congrArg (fun z => vI z) (show _ = k_ln κ from rfl)) ?_
      refine g_c_ge (tgt := 102) (pc := 67) dX3_load_67 (by omega) (by decide) (fun c67 => ?_) (fun c67 => absurd c67 (by omega))
      refine g_iload_n (i := 1) (pc := 102) dX3_load_102 rfl rfl ?_
      refine g_iret (pc := 103) rfl dX3_load_103 (fun h => h) ?_
      exact dt_i rfl rfl
    · intro k hk ih
      have hL2 := hKK.2.1
      have y8 := sn_rng hKK.1 (k_ln κ) ((k : Int) + 1)
      have y9 := ldS_rng (k_sg κ) (k_ln κ) k
      have hK := kinv_ms (i := 0) hK (inv_ldS (k_sg κ) (k_ln κ) k)
      show G _ _ _ _ _ _ _ _ _ _ _
      refine g_iload_n (i := 2) (pc := 59) dX3_load_59 rfl rfl ?_
      refine g_aload_n (i := 0) (pc := 60) dX3_load_60 rfl rfl ?_
      refine g_getf (pc := 61) f_X3_10 dX3_load_61 (c_0) rfl ?_
      refine g_v0 (pc := 64) okV_X2_length rfl l_X3_48 dX3_load_64 (c_1) hc_2 (by decide) (by decide) (Nat.le_of_ble_eq_true rfl) (t_X2_length hK) rfl ?_
      simp only [Option.toList, List.cons_append, List.nil_append]
      refine G.eqS (congrArg (fun z => vI z) (show _ = k_ln κ from rfl)) ?_
      refine g_c_ge (tgt := 102) (pc := 67) dX3_load_67 (by omega) (by decide) (fun c67 => absurd c67 (by omega)) (fun c67 => ?_)
      refine g_aload_n (i := 0) (pc := 70) dX3_load_70 rfl rfl ?_
      refine g_getf (pc := 71) f_X3_10 dX3_load_71 (c_0) rfl ?_
      refine g_iload_n (i := 2) (pc := 74) dX3_load_74 rfl rfl ?_
      refine g_v1 (pc := 75) okV_X2_sign rfl l_X3_75 dX3_load_75 (c_1) hc_2 (by decide) (by decide) (Nat.le_of_ble_eq_true rfl) (t_X2_sign hK (by omega)) rfl ?_
      simp only [Option.toList, List.cons_append, List.nil_append]
      have bb := sn_rng hK.1 (k_ln (k_setms (xk_l0 κ) 0 (ldS (k_sg κ) (k_ln κ) k).1)) (((k : Int) + 1))
      refine G.eqS (congrArg (fun z => vI z) (show _ = sn (k_sg κ) (k_ln κ) ((k : Int) + 1) from rfl)) ?_
      refine g_s1 (pc := 78) okS_X2_digitsBehind rfl l_X3_79 dX3_load_78 (by decide) (by decide) (Nat.le_of_ble_eq_true rfl) (t_X2_digitsBehind (by omega)) rfl ?_
      simp only [Option.toList, List.cons_append, List.nil_append]
      have bb := db_rng ((sn (k_sg κ) (k_ln κ) ((k : Int) + 1)))
      refine g_iconst (pc := 81) dX3_load_81 ?_
      refine g_c_eq (tgt := 96) (pc := 82) dX3_load_82 (by omega) (by decide) (fun c82 => ?_) (fun c82 => ?_)
      · skip
        refine g_iinc (pc := 96) dX3_load_96 rfl (by decide) rfl ?_
        simp only [List.set_cons_succ, List.set_cons_zero]
        refine g_goto (tgt := 59) (pc := 99) dX3_load_99 (by decide) ?_
        have e9 : ldS (k_sg κ) (k_ln κ) (k + 1) = ldS (k_sg κ) (k_ln κ) k := by
          rw [ldS, if_neg (by omega)]
        refine G.eqw (w' := cW (k_setms (xk_l0 κ) 0 (ldS (k_sg κ) (k_ln κ) (k + 1)).1) δ o) (by rw [e9]) (G.eqL ?_ ih)
        rw [e9]
        rfl
      · skip
        refine g_aload_n (i := 0) (pc := 85) dX3_load_85 rfl rfl ?_
        refine g_iload_n (i := 2) (pc := 86) dX3_load_86 rfl rfl ?_
        refine g_v1 (pc := 87) okV_X3_doCommandOfText rfl l_X3_82 dX3_load_87 (c_0) hc_3 (by decide) (by decide) (Nat.le_of_ble_eq_true rfl) (t_X3_doCommandOfText hK (i := ((k : Int) + 1)) (by omega)) (by rw [c_len, c_len]) ?_
        simp only [Option.toList, List.cons_append, List.nil_append]
        refine G.eqw (show _ = cW (k_setms (xk_l0 κ) 0 (tS (ldS (k_sg κ) (k_ln κ) k).1 (k_sg κ) (k_ln κ) (((k : Int) + 1)))) δ o from congrArg (fun z => cW z δ o) (ms_ms (xk_l0 κ) 0 _ _)) ?_
        refine G.eqS (v' := vI (b2 (tV (ldS (k_sg κ) (k_ln κ) k).1 (k_sg κ) (k_ln κ) (((k : Int) + 1))))) rfl ?_
        have bb := b2_rng (tV (ldS (k_sg κ) (k_ln κ) k).1 (k_sg κ) (k_ln κ) (((k : Int) + 1)))
        refine g_z_ne (tgt := 96) (pc := 90) dX3_load_90 (by omega) (by decide) (fun c90 => ?_) (fun c90 => ?_)
        · skip
          refine g_iinc (pc := 96) dX3_load_96 rfl (by decide) rfl ?_
          simp only [List.set_cons_succ, List.set_cons_zero]
          refine g_goto (tgt := 59) (pc := 99) dX3_load_99 (by decide) ?_
          have e9 : ldS (k_sg κ) (k_ln κ) (k + 1) = (tS (ldS (k_sg κ) (k_ln κ) k).1 (k_sg κ) (k_ln κ) ((k : Int) + 1), (ldS (k_sg κ) (k_ln κ) k).2 + (if tV (ldS (k_sg κ) (k_ln κ) k).1 (k_sg κ) (k_ln κ) ((k : Int) + 1) = true then 0 else 1)) := by
            rw [ldS, if_pos (by omega)]
          refine G.eqw (w' := cW (k_setms (xk_l0 κ) 0 (ldS (k_sg κ) (k_ln κ) (k + 1)).1) δ o) (by rw [e9]) (G.eqL ?_ ih)
          rw [e9]
          rw [if_pos (b2_1.mp (by omega)), Int.add_zero]
          rfl
        · skip
          refine g_iinc (pc := 93) dX3_load_93 rfl (by decide) rfl ?_
          simp only [List.set_cons_succ, List.set_cons_zero]
          refine g_iinc (pc := 96) dX3_load_96 rfl (by decide) rfl ?_
          simp only [List.set_cons_succ, List.set_cons_zero]
          refine g_goto (tgt := 59) (pc := 99) dX3_load_99 (by decide) ?_
          have e9 : ldS (k_sg κ) (k_ln κ) (k + 1) = (tS (ldS (k_sg κ) (k_ln κ) k).1 (k_sg κ) (k_ln κ) ((k : Int) + 1), (ldS (k_sg κ) (k_ln κ) k).2 + (if tV (ldS (k_sg κ) (k_ln κ) k).1 (k_sg κ) (k_ln κ) ((k : Int) + 1) = true then 0 else 1)) := by
            rw [ldS, if_pos (by omega)]
          refine G.eqw (w' := cW (k_setms (xk_l0 κ) 0 (ldS (k_sg κ) (k_ln κ) (k + 1)).1) δ o) (by rw [e9]) (G.eqL ?_ ih)
          rw [e9]
          rw [if_neg (b2_0.mp (by omega))]
          rfl
  · skip
    refine g_throw (pc := 11) (is := 67) (tx := "the text is not a story") e_52_56 (by decide) rfl dX3_load_11 dX3_load_14 dX3_load_15 dX3_load_17 dX3_load_20 (by decide) (Nat.le_of_ble_eq_true rfl) (by omega) ?_
    have h9 : xc_ld κ = 1 := by
      unfold xc_ld
      rw [if_neg (by omega)]
    exact dq_1 h9 (by rw [if_neg (by rw [h9]; decide)])
set_option maxRecDepth 20000 in
set_option maxHeartbeats 4000000 in
theorem t_X3_withoutLastCommands {w : List MC} {s n : Int} {al : Bool} (h_s : 0 ≤ s ∧ s < 9223372036854775808) (h_n : 0 ≤ n ∧ n < 100) : GM M_X3_withoutLastCommands al [vL s, vI n] (w) 0 0 (dt (some (vL (wl s n.toNat))) w) := by
  show G _ none _ _ 0 [some (vL s), none, some (vI n), none, none, none] [] _ _ _ _
  refine g_lload_n (i := 0) (pc := 0) dX3_withoutLastCommands_0 rfl rfl ?_
  refine g_lstore_n (i := 3) (pc := 1) dX3_withoutLastCommands_1 rfl (by decide) rfl ?_
  simp only [List.set_cons_succ, List.set_cons_zero]
  refine g_iconst (pc := 2) dX3_withoutLastCommands_2 ?_
  refine g_istore (pc := 3) dX3_withoutLastCommands_3 (by decide) rfl ?_
  simp only [List.set_cons_succ, List.set_cons_zero]
  refine lp_up (P := fun k => G M_X3_withoutLastCommands none al al 5 [some (vL s), none, some (vI n), some (vL (wl s k)), none, some (vI k)] [] w 0 0 (dt (some (vL (wl s n.toNat))) w)) n.toNat ?_ ?_ 0 (Nat.zero_le _)
  · show G _ _ _ _ _ _ _ _ _ _ _
    refine g_iload (pc := 5) dX3_withoutLastCommands_5 rfl ?_
    refine g_iload_n (i := 2) (pc := 7) dX3_withoutLastCommands_7 rfl rfl ?_
    refine g_c_ge (tgt := 23) (pc := 8) dX3_withoutLastCommands_8 (by omega) (by decide) (fun c8 => ?_) (fun c8 => absurd c8 (by omega))
    refine g_lload_n (i := 3) (pc := 23) dX3_withoutLastCommands_23 rfl rfl ?_
    refine g_lret (pc := 24) rfl dX3_withoutLastCommands_24 (fun h => h) ?_
    exact ⟨rfl, rfl⟩
  · intro k hk ih
    have y9 := wl_rng h_s.1 k
    show G _ _ _ _ _ _ _ _ _ _ _
    refine g_iload (pc := 5) dX3_withoutLastCommands_5 rfl ?_
    refine g_iload_n (i := 2) (pc := 7) dX3_withoutLastCommands_7 rfl rfl ?_
    refine g_c_ge (tgt := 23) (pc := 8) dX3_withoutLastCommands_8 (by omega) (by decide) (fun c8 => absurd c8 (by omega)) (fun c8 => ?_)
    refine g_lload_n (i := 3) (pc := 11) dX3_withoutLastCommands_11 rfl rfl ?_
    refine g_ldc2 (n := 100000) (pc := 12) co_X3_247 dX3_withoutLastCommands_12 rfl ?_
    refine g_ldiv (pc := 15) dX3_withoutLastCommands_15 (by omega) (by omega) ?_
    refine g_lstore_n (i := 3) (pc := 16) dX3_withoutLastCommands_16 rfl (by decide) rfl ?_
    simp only [List.set_cons_succ, List.set_cons_zero]
    refine g_iinc (pc := 17) dX3_withoutLastCommands_17 rfl (by decide) rfl ?_
    simp only [List.set_cons_succ, List.set_cons_zero]
    refine g_goto (tgt := 5) (pc := 20) dX3_withoutLastCommands_20 (by decide) ?_
    exact ih
set_option maxRecDepth 20000 in
set_option maxHeartbeats 4000000 in
theorem t_X3_doCommandOfScript {κ : KT} {δ : DT} {o : Nat → Int} (hK : KInv κ) {d : Int} (h_d : 0 ≤ d ∧ d < 100000) : GM M_X3_doCommandOfScript false [vR 0, vI d] (cW κ δ o) 0 0 (dt (some (vI (b2 (cV (k_ms κ 1) d)))) (cW (k_setms κ 1 (cS (k_ms κ 1) d)) δ o)) := by
  show G _ none _ _ 0 [some (vR 0), some (vI d), none, none, none, none, none, none, none, none] [] _ _ _ _
  refine g_iload_n (i := 1) (pc := 0) dX3_doCommandOfScript_0 rfl rfl ?_
  refine g_sipush (pc := 1) dX3_doCommandOfScript_1 (by decide) ?_
  refine g_idiv (pc := 4) dX3_doCommandOfScript_4 (by omega) (by omega) ?_
  refine G.eqS (congrArg (fun z => vI z) (Int.tdiv_eq_ediv_of_nonneg (by omega))) ?_
  refine g_istore_n (i := 2) (pc := 5) dX3_doCommandOfScript_5 rfl (by decide) rfl ?_
  simp only [List.set_cons_succ, List.set_cons_zero]
  refine g_iload_n (i := 1) (pc := 6) dX3_doCommandOfScript_6 rfl rfl ?_
  refine g_sipush (pc := 7) dX3_doCommandOfScript_7 (by decide) ?_
  refine g_idiv (pc := 10) dX3_doCommandOfScript_10 (by omega) (by omega) ?_
  refine G.eqS (congrArg (fun z => vI z) (Int.tdiv_eq_ediv_of_nonneg (by omega))) ?_
  refine g_bipush (pc := 11) dX3_doCommandOfScript_11 (by decide) ?_
  refine g_irem (pc := 13) dX3_doCommandOfScript_13 (by omega) (by omega) ?_
  refine G.eqS (congrArg (fun z => vI z) (Int.tmod_eq_emod_of_nonneg (by omega))) ?_
  refine g_istore_n (i := 3) (pc := 14) dX3_doCommandOfScript_14 rfl (by decide) rfl ?_
  simp only [List.set_cons_succ, List.set_cons_zero]
  refine g_iload_n (i := 1) (pc := 15) dX3_doCommandOfScript_15 rfl rfl ?_
  refine g_bipush (pc := 16) dX3_doCommandOfScript_16 (by decide) ?_
  refine g_idiv (pc := 18) dX3_doCommandOfScript_18 (by omega) (by omega) ?_
  refine G.eqS (congrArg (fun z => vI z) (Int.tdiv_eq_ediv_of_nonneg (by omega))) ?_
  refine g_bipush (pc := 19) dX3_doCommandOfScript_19 (by decide) ?_
  refine g_irem (pc := 21) dX3_doCommandOfScript_21 (by omega) (by omega) ?_
  refine G.eqS (congrArg (fun z => vI z) (Int.tmod_eq_emod_of_nonneg (by omega))) ?_
  refine g_istore (pc := 22) dX3_doCommandOfScript_22 (by decide) rfl ?_
  simp only [List.set_cons_succ, List.set_cons_zero]
  refine g_iload_n (i := 1) (pc := 24) dX3_doCommandOfScript_24 rfl rfl ?_
  refine g_bipush (pc := 25) dX3_doCommandOfScript_25 (by decide) ?_
  refine g_idiv (pc := 27) dX3_doCommandOfScript_27 (by omega) (by omega) ?_
  refine G.eqS (congrArg (fun z => vI z) (Int.tdiv_eq_ediv_of_nonneg (by omega))) ?_
  refine g_bipush (pc := 28) dX3_doCommandOfScript_28 (by decide) ?_
  refine g_irem (pc := 30) dX3_doCommandOfScript_30 (by omega) (by omega) ?_
  refine G.eqS (congrArg (fun z => vI z) (Int.tmod_eq_emod_of_nonneg (by omega))) ?_
  refine g_istore (pc := 31) dX3_doCommandOfScript_31 (by decide) rfl ?_
  simp only [List.set_cons_succ, List.set_cons_zero]
  refine g_iload_n (i := 1) (pc := 33) dX3_doCommandOfScript_33 rfl rfl ?_
  refine g_bipush (pc := 34) dX3_doCommandOfScript_34 (by decide) ?_
  refine g_irem (pc := 36) dX3_doCommandOfScript_36 (by omega) (by omega) ?_
  refine G.eqS (congrArg (fun z => vI z) (Int.tmod_eq_emod_of_nonneg (by omega))) ?_
  refine g_istore (pc := 37) dX3_doCommandOfScript_37 (by decide) rfl ?_
  simp only [List.set_cons_succ, List.set_cons_zero]
  refine g_iload_n (i := 1) (pc := 39) dX3_doCommandOfScript_39 rfl rfl ?_
  refine g_bipush (pc := 40) dX3_doCommandOfScript_40 (by decide) ?_
  refine g_irem (pc := 42) dX3_doCommandOfScript_42 (by omega) (by omega) ?_
  refine G.eqS (congrArg (fun z => vI z) (Int.tmod_eq_emod_of_nonneg (by omega))) ?_
  refine g_istore (pc := 43) dX3_doCommandOfScript_43 (by decide) rfl ?_
  simp only [List.set_cons_succ, List.set_cons_zero]
  refine g_iload_n (i := 1) (pc := 45) dX3_doCommandOfScript_45 rfl rfl ?_
  refine g_sipush (pc := 46) dX3_doCommandOfScript_46 (by decide) ?_
  refine g_irem (pc := 49) dX3_doCommandOfScript_49 (by omega) (by omega) ?_
  refine G.eqS (congrArg (fun z => vI z) (Int.tmod_eq_emod_of_nonneg (by omega))) ?_
  refine g_istore (pc := 50) dX3_doCommandOfScript_50 (by decide) rfl ?_
  simp only [List.set_cons_succ, List.set_cons_zero]
  refine g_iload_n (i := 1) (pc := 52) dX3_doCommandOfScript_52 rfl rfl ?_
  refine g_sipush (pc := 53) dX3_doCommandOfScript_53 (by decide) ?_
  refine g_irem (pc := 56) dX3_doCommandOfScript_56 (by omega) (by omega) ?_
  refine G.eqS (congrArg (fun z => vI z) (Int.tmod_eq_emod_of_nonneg (by omega))) ?_
  refine g_istore (pc := 57) dX3_doCommandOfScript_57 (by decide) rfl ?_
  simp only [List.set_cons_succ, List.set_cons_zero]
  refine g_iload_n (i := 2) (pc := 59) dX3_doCommandOfScript_59 rfl rfl ?_
  by_cases sw60 : 1 ≤ (d / 10000) ∧ (d / 10000) ≤ 9
  · rcases (by omega : (d / 10000) = 1 ∨ (d / 10000) = 2 ∨ (d / 10000) = 3 ∨ (d / 10000) = 4 ∨ (d / 10000) = 5 ∨ (d / 10000) = 6 ∨ (d / 10000) = 7 ∨ (d / 10000) = 8 ∨ (d / 10000) = 9) with ew60 | ew60 | ew60 | ew60 | ew60 | ew60 | ew60 | ew60 | ew60
    · refine g_tsIn (tgt := 112) (pc := 60) dX3_doCommandOfScript_60 (by omega) (by omega) (by omega) (by rw [ew60]; rfl) (by decide) ?_
      refine g_aload_n (i := 0) (pc := 112) dX3_doCommandOfScript_112 rfl rfl ?_
      refine g_getf (pc := 113) f_X3_23 dX3_doCommandOfScript_113 (c_0) rfl ?_
      refine g_iload_n (i := 3) (pc := 116) dX3_doCommandOfScript_116 rfl rfl ?_
      refine g_iload (pc := 117) dX3_doCommandOfScript_117 rfl ?_
      refine g_iload (pc := 119) dX3_doCommandOfScript_119 rfl ?_
      have hi := hK.2.2.1 1
      refine G.eqw c_self1 ?_
      refine g_v3 (pc := 121) okV_X1_doWrite rfl l_X3_181 dX3_doCommandOfScript_121 (m_at0 c_ok1) hc_1 (by decide) (by decide) (Nat.le_of_ble_eq_true rfl) (t_X1_doWrite c_ok1 hi (by omega) (by omega) (by omega)) (by simp only [m_len]) ?_
      simp only [Option.toList, List.cons_append, List.nil_append]
      refine G.eqw (c_mem1 (σ := dw (k_ms (κ) 1) ((d / 1000 % 10)) ((d / 10 % 100)) ((d % 10)))) ?_
      refine G.eqS (v' := vI (dwv (k_ms (κ) 1) ((d / 1000 % 10)) ((d / 10 % 100)) ((d % 10)))) rfl ?_
      have bb := dwv_rng (k_ms (κ) 1) ((d / 1000 % 10)) ((d / 10 % 100)) ((d % 10))
      have hK := kinv_ms (i := 1) hK (inv_dw hi ((d / 1000 % 10)) ((d / 10 % 100)) ((d % 10)))
      refine g_iconst (pc := 124) dX3_doCommandOfScript_124 ?_
      refine g_c_eq (tgt := 132) (pc := 125) dX3_doCommandOfScript_125 (by omega) (by decide) (fun c125 => ?_) (fun c125 => ?_)
      · skip
        refine g_iconst (pc := 132) dX3_doCommandOfScript_132 ?_
        refine g_zret (pc := 133) rfl dX3_doCommandOfScript_133 (by omega) (fun h => h) ?_
        first
        | (refine dt_i ?_ ?_
           · rw [b2_t (b := cV (k_ms κ 1) d) (by unfold cV; rw [if_pos (by omega), decide_eq_true_eq]; omega)]
           · unfold cS; rw [if_pos (by omega)])
        | (refine dt_i ?_ ?_
           · rw [b2_f (b := cV (k_ms κ 1) d) (by unfold cV; rw [if_pos (by omega), decide_eq_true_eq]; omega)]
           · unfold cS; rw [if_pos (by omega)])
      · skip
        refine g_iconst (pc := 128) dX3_doCommandOfScript_128 ?_
        refine g_goto (tgt := 133) (pc := 129) dX3_doCommandOfScript_129 (by decide) ?_
        refine g_zret (pc := 133) rfl dX3_doCommandOfScript_133 (by omega) (fun h => h) ?_
        first
        | (refine dt_i ?_ ?_
           · rw [b2_t (b := cV (k_ms κ 1) d) (by unfold cV; rw [if_pos (by omega), decide_eq_true_eq]; omega)]
           · unfold cS; rw [if_pos (by omega)])
        | (refine dt_i ?_ ?_
           · rw [b2_f (b := cV (k_ms κ 1) d) (by unfold cV; rw [if_pos (by omega), decide_eq_true_eq]; omega)]
           · unfold cS; rw [if_pos (by omega)])
    · refine g_tsIn (tgt := 134) (pc := 60) dX3_doCommandOfScript_60 (by omega) (by omega) (by omega) (by rw [ew60]; rfl) (by decide) ?_
      refine g_iload (pc := 134) dX3_doCommandOfScript_134 rfl ?_
      refine g_z_ne (tgt := 155) (pc := 136) dX3_doCommandOfScript_136 (by omega) (by decide) (fun c136 => ?_) (fun c136 => ?_)
      · skip
        refine g_iconst (pc := 155) dX3_doCommandOfScript_155 ?_
        refine g_zret (pc := 156) rfl dX3_doCommandOfScript_156 (by omega) (fun h => h) ?_
        first
        | (refine dt_i ?_ ?_
           · rw [b2_t (b := cV (k_ms κ 1) d) (by unfold cV; rw [if_neg (by omega), if_pos (by omega), decide_eq_true_eq]; omega)]
           · unfold cS; rw [if_neg (by omega), if_pos (by omega)]; first | rw [if_pos (by omega)] | rw [if_neg (by omega), k_same])
        | (refine dt_i ?_ ?_
           · rw [b2_f (b := cV (k_ms κ 1) d) (by unfold cV; rw [if_neg (by omega), if_pos (by omega), decide_eq_true_eq]; omega)]
           · unfold cS; rw [if_neg (by omega), if_pos (by omega)]; first | rw [if_pos (by omega)] | rw [if_neg (by omega), k_same])
      · skip
        refine g_aload_n (i := 0) (pc := 139) dX3_doCommandOfScript_139 rfl rfl ?_
        refine g_getf (pc := 140) f_X3_23 dX3_doCommandOfScript_140 (c_0) rfl ?_
        refine g_iload_n (i := 3) (pc := 143) dX3_doCommandOfScript_143 rfl rfl ?_
        have hi := hK.2.2.1 1
        refine G.eqw c_self1 ?_
        refine g_v1 (pc := 144) okV_X1_doFork rfl l_X3_194 dX3_doCommandOfScript_144 (m_at0 c_ok1) hc_1 (by decide) (by decide) (Nat.le_of_ble_eq_true rfl) (t_X1_doFork c_ok1 hi (by omega)) (by simp only [m_len]) ?_
        simp only [Option.toList, List.cons_append, List.nil_append]
        refine G.eqw (c_mem1 (σ := df (k_ms (κ) 1) ((d / 1000 % 10)))) ?_
        refine G.eqS (v' := vI (dfv (k_ms (κ) 1) ((d / 1000 % 10)))) rfl ?_
        have bb := dfv_rng (k_ms (κ) 1) ((d / 1000 % 10))
        have hK := kinv_ms (i := 1) hK (inv_df hi ((d / 1000 % 10)))
        refine g_iconst (pc := 147) dX3_doCommandOfScript_147 ?_
        refine g_c_eq (tgt := 155) (pc := 148) dX3_doCommandOfScript_148 (by omega) (by decide) (fun c148 => ?_) (fun c148 => ?_)
        · skip
          refine g_iconst (pc := 155) dX3_doCommandOfScript_155 ?_
          refine g_zret (pc := 156) rfl dX3_doCommandOfScript_156 (by omega) (fun h => h) ?_
          first
          | (refine dt_i ?_ ?_
             · rw [b2_t (b := cV (k_ms κ 1) d) (by unfold cV; rw [if_neg (by omega), if_pos (by omega), decide_eq_true_eq]; omega)]
             · unfold cS; rw [if_neg (by omega), if_pos (by omega)]; first | rw [if_pos (by omega)] | rw [if_neg (by omega), k_same])
          | (refine dt_i ?_ ?_
             · rw [b2_f (b := cV (k_ms κ 1) d) (by unfold cV; rw [if_neg (by omega), if_pos (by omega), decide_eq_true_eq]; omega)]
             · unfold cS; rw [if_neg (by omega), if_pos (by omega)]; first | rw [if_pos (by omega)] | rw [if_neg (by omega), k_same])
        · skip
          refine g_iconst (pc := 151) dX3_doCommandOfScript_151 ?_
          refine g_goto (tgt := 156) (pc := 152) dX3_doCommandOfScript_152 (by decide) ?_
          refine g_zret (pc := 156) rfl dX3_doCommandOfScript_156 (by omega) (fun h => h) ?_
          first
          | (refine dt_i ?_ ?_
             · rw [b2_t (b := cV (k_ms κ 1) d) (by unfold cV; rw [if_neg (by omega), if_pos (by omega), decide_eq_true_eq]; omega)]
             · unfold cS; rw [if_neg (by omega), if_pos (by omega)]; first | rw [if_pos (by omega)] | rw [if_neg (by omega), k_same])
          | (refine dt_i ?_ ?_
             · rw [b2_f (b := cV (k_ms κ 1) d) (by unfold cV; rw [if_neg (by omega), if_pos (by omega), decide_eq_true_eq]; omega)]
             · unfold cS; rw [if_neg (by omega), if_pos (by omega)]; first | rw [if_pos (by omega)] | rw [if_neg (by omega), k_same])
    · refine g_tsIn (tgt := 157) (pc := 60) dX3_doCommandOfScript_60 (by omega) (by omega) (by omega) (by rw [ew60]; rfl) (by decide) ?_
      refine g_iload (pc := 157) dX3_doCommandOfScript_157 rfl ?_
      refine g_z_ne (tgt := 178) (pc := 159) dX3_doCommandOfScript_159 (by omega) (by decide) (fun c159 => ?_) (fun c159 => ?_)
      · skip
        refine g_iconst (pc := 178) dX3_doCommandOfScript_178 ?_
        refine g_zret (pc := 179) rfl dX3_doCommandOfScript_179 (by omega) (fun h => h) ?_
        first
        | (refine dt_i ?_ ?_
           · rw [b2_t (b := cV (k_ms κ 1) d) (by unfold cV; rw [if_neg (by omega), if_neg (by omega), if_pos (by omega), decide_eq_true_eq]; omega)]
           · unfold cS; rw [if_neg (by omega), if_neg (by omega), if_pos (by omega)]; first | rw [if_pos (by omega)] | rw [if_neg (by omega), k_same])
        | (refine dt_i ?_ ?_
           · rw [b2_f (b := cV (k_ms κ 1) d) (by unfold cV; rw [if_neg (by omega), if_neg (by omega), if_pos (by omega), decide_eq_true_eq]; omega)]
           · unfold cS; rw [if_neg (by omega), if_neg (by omega), if_pos (by omega)]; first | rw [if_pos (by omega)] | rw [if_neg (by omega), k_same])
      · skip
        refine g_aload_n (i := 0) (pc := 162) dX3_doCommandOfScript_162 rfl rfl ?_
        refine g_getf (pc := 163) f_X3_23 dX3_doCommandOfScript_163 (c_0) rfl ?_
        refine g_iload_n (i := 3) (pc := 166) dX3_doCommandOfScript_166 rfl rfl ?_
        have hi := hK.2.2.1 1
        refine G.eqw c_self1 ?_
        refine g_v1 (pc := 167) okV_X1_doExit rfl l_X3_203 dX3_doCommandOfScript_167 (m_at0 c_ok1) hc_1 (by decide) (by decide) (Nat.le_of_ble_eq_true rfl) (t_X1_doExit c_ok1 hi (by omega)) (by simp only [m_len]) ?_
        simp only [Option.toList, List.cons_append, List.nil_append]
        refine G.eqw (c_mem1 (σ := de (k_ms (κ) 1) ((d / 1000 % 10)))) ?_
        refine G.eqS (v' := vI (dev (k_ms (κ) 1) ((d / 1000 % 10)))) rfl ?_
        have bb := dev_rng (k_ms (κ) 1) ((d / 1000 % 10))
        have hK := kinv_ms (i := 1) hK (inv_de hi ((d / 1000 % 10)))
        refine g_iconst (pc := 170) dX3_doCommandOfScript_170 ?_
        refine g_c_eq (tgt := 178) (pc := 171) dX3_doCommandOfScript_171 (by omega) (by decide) (fun c171 => ?_) (fun c171 => ?_)
        · skip
          refine g_iconst (pc := 178) dX3_doCommandOfScript_178 ?_
          refine g_zret (pc := 179) rfl dX3_doCommandOfScript_179 (by omega) (fun h => h) ?_
          first
          | (refine dt_i ?_ ?_
             · rw [b2_t (b := cV (k_ms κ 1) d) (by unfold cV; rw [if_neg (by omega), if_neg (by omega), if_pos (by omega), decide_eq_true_eq]; omega)]
             · unfold cS; rw [if_neg (by omega), if_neg (by omega), if_pos (by omega)]; first | rw [if_pos (by omega)] | rw [if_neg (by omega), k_same])
          | (refine dt_i ?_ ?_
             · rw [b2_f (b := cV (k_ms κ 1) d) (by unfold cV; rw [if_neg (by omega), if_neg (by omega), if_pos (by omega), decide_eq_true_eq]; omega)]
             · unfold cS; rw [if_neg (by omega), if_neg (by omega), if_pos (by omega)]; first | rw [if_pos (by omega)] | rw [if_neg (by omega), k_same])
        · skip
          refine g_iconst (pc := 174) dX3_doCommandOfScript_174 ?_
          refine g_goto (tgt := 179) (pc := 175) dX3_doCommandOfScript_175 (by decide) ?_
          refine g_zret (pc := 179) rfl dX3_doCommandOfScript_179 (by omega) (fun h => h) ?_
          first
          | (refine dt_i ?_ ?_
             · rw [b2_t (b := cV (k_ms κ 1) d) (by unfold cV; rw [if_neg (by omega), if_neg (by omega), if_pos (by omega), decide_eq_true_eq]; omega)]
             · unfold cS; rw [if_neg (by omega), if_neg (by omega), if_pos (by omega)]; first | rw [if_pos (by omega)] | rw [if_neg (by omega), k_same])
          | (refine dt_i ?_ ?_
             · rw [b2_f (b := cV (k_ms κ 1) d) (by unfold cV; rw [if_neg (by omega), if_neg (by omega), if_pos (by omega), decide_eq_true_eq]; omega)]
             · unfold cS; rw [if_neg (by omega), if_neg (by omega), if_pos (by omega)]; first | rw [if_pos (by omega)] | rw [if_neg (by omega), k_same])
    · refine g_tsIn (tgt := 180) (pc := 60) dX3_doCommandOfScript_60 (by omega) (by omega) (by omega) (by rw [ew60]; rfl) (by decide) ?_
      refine g_iload (pc := 180) dX3_doCommandOfScript_180 rfl ?_
      refine g_z_ne (tgt := 203) (pc := 182) dX3_doCommandOfScript_182 (by omega) (by decide) (fun c182 => ?_) (fun c182 => ?_)
      · skip
        refine g_iconst (pc := 203) dX3_doCommandOfScript_203 ?_
        refine g_zret (pc := 204) rfl dX3_doCommandOfScript_204 (by omega) (fun h => h) ?_
        first
        | (refine dt_i ?_ ?_
           · rw [b2_t (b := cV (k_ms κ 1) d) (by unfold cV; rw [if_neg (by omega), if_neg (by omega), if_neg (by omega), if_pos (by omega), decide_eq_true_eq]; omega)]
           · unfold cS; rw [if_neg (by omega), if_neg (by omega), if_neg (by omega), if_pos (by omega)]; first | rw [if_pos (by omega)] | rw [if_neg (by omega), k_same])
        | (refine dt_i ?_ ?_
           · rw [b2_f (b := cV (k_ms κ 1) d) (by unfold cV; rw [if_neg (by omega), if_neg (by omega), if_neg (by omega), if_pos (by omega), decide_eq_true_eq]; omega)]
           · unfold cS; rw [if_neg (by omega), if_neg (by omega), if_neg (by omega), if_pos (by omega)]; first | rw [if_pos (by omega)] | rw [if_neg (by omega), k_same])
      · skip
        refine g_aload_n (i := 0) (pc := 185) dX3_doCommandOfScript_185 rfl rfl ?_
        refine g_getf (pc := 186) f_X3_23 dX3_doCommandOfScript_186 (c_0) rfl ?_
        refine g_iload_n (i := 3) (pc := 189) dX3_doCommandOfScript_189 rfl rfl ?_
        refine g_iload (pc := 190) dX3_doCommandOfScript_190 rfl ?_
        have hi := hK.2.2.1 1
        refine G.eqw c_self1 ?_
        refine g_v2 (pc := 192) okV_X1_doMarry rfl l_X3_211 dX3_doCommandOfScript_192 (m_at0 c_ok1) hc_1 (by decide) (by decide) (Nat.le_of_ble_eq_true rfl) (t_X1_doMarry c_ok1 hi (by omega) (by omega)) (by simp only [m_len]) ?_
        simp only [Option.toList, List.cons_append, List.nil_append]
        refine G.eqw (c_mem1 (σ := dm (k_ms (κ) 1) ((d / 1000 % 10)) ((d / 100 % 10)))) ?_
        refine G.eqS (v' := vI (dmv (k_ms (κ) 1) ((d / 1000 % 10)) ((d / 100 % 10)))) rfl ?_
        have bb := dmv_rng (k_ms (κ) 1) ((d / 1000 % 10)) ((d / 100 % 10))
        have hK := kinv_ms (i := 1) hK (inv_dm hi ((d / 1000 % 10)) ((d / 100 % 10)))
        refine g_iconst (pc := 195) dX3_doCommandOfScript_195 ?_
        refine g_c_eq (tgt := 203) (pc := 196) dX3_doCommandOfScript_196 (by omega) (by decide) (fun c196 => ?_) (fun c196 => ?_)
        · skip
          refine g_iconst (pc := 203) dX3_doCommandOfScript_203 ?_
          refine g_zret (pc := 204) rfl dX3_doCommandOfScript_204 (by omega) (fun h => h) ?_
          first
          | (refine dt_i ?_ ?_
             · rw [b2_t (b := cV (k_ms κ 1) d) (by unfold cV; rw [if_neg (by omega), if_neg (by omega), if_neg (by omega), if_pos (by omega), decide_eq_true_eq]; omega)]
             · unfold cS; rw [if_neg (by omega), if_neg (by omega), if_neg (by omega), if_pos (by omega)]; first | rw [if_pos (by omega)] | rw [if_neg (by omega), k_same])
          | (refine dt_i ?_ ?_
             · rw [b2_f (b := cV (k_ms κ 1) d) (by unfold cV; rw [if_neg (by omega), if_neg (by omega), if_neg (by omega), if_pos (by omega), decide_eq_true_eq]; omega)]
             · unfold cS; rw [if_neg (by omega), if_neg (by omega), if_neg (by omega), if_pos (by omega)]; first | rw [if_pos (by omega)] | rw [if_neg (by omega), k_same])
        · skip
          refine g_iconst (pc := 199) dX3_doCommandOfScript_199 ?_
          refine g_goto (tgt := 204) (pc := 200) dX3_doCommandOfScript_200 (by decide) ?_
          refine g_zret (pc := 204) rfl dX3_doCommandOfScript_204 (by omega) (fun h => h) ?_
          first
          | (refine dt_i ?_ ?_
             · rw [b2_t (b := cV (k_ms κ 1) d) (by unfold cV; rw [if_neg (by omega), if_neg (by omega), if_neg (by omega), if_pos (by omega), decide_eq_true_eq]; omega)]
             · unfold cS; rw [if_neg (by omega), if_neg (by omega), if_neg (by omega), if_pos (by omega)]; first | rw [if_pos (by omega)] | rw [if_neg (by omega), k_same])
          | (refine dt_i ?_ ?_
             · rw [b2_f (b := cV (k_ms κ 1) d) (by unfold cV; rw [if_neg (by omega), if_neg (by omega), if_neg (by omega), if_pos (by omega), decide_eq_true_eq]; omega)]
             · unfold cS; rw [if_neg (by omega), if_neg (by omega), if_neg (by omega), if_pos (by omega)]; first | rw [if_pos (by omega)] | rw [if_neg (by omega), k_same])
    · refine g_tsIn (tgt := 205) (pc := 60) dX3_doCommandOfScript_60 (by omega) (by omega) (by omega) (by rw [ew60]; rfl) (by decide) ?_
      refine g_iload (pc := 205) dX3_doCommandOfScript_205 rfl ?_
      refine g_z_ne (tgt := 228) (pc := 207) dX3_doCommandOfScript_207 (by omega) (by decide) (fun c207 => ?_) (fun c207 => ?_)
      · skip
        refine g_iconst (pc := 228) dX3_doCommandOfScript_228 ?_
        refine g_zret (pc := 229) rfl dX3_doCommandOfScript_229 (by omega) (fun h => h) ?_
        first
        | (refine dt_i ?_ ?_
           · rw [b2_t (b := cV (k_ms κ 1) d) (by unfold cV; rw [if_neg (by omega), if_neg (by omega), if_neg (by omega), if_neg (by omega), if_pos (by omega), decide_eq_true_eq]; omega)]
           · unfold cS; rw [if_neg (by omega), if_neg (by omega), if_neg (by omega), if_neg (by omega), if_pos (by omega)]; first | rw [if_pos (by omega)] | rw [if_neg (by omega), k_same])
        | (refine dt_i ?_ ?_
           · rw [b2_f (b := cV (k_ms κ 1) d) (by unfold cV; rw [if_neg (by omega), if_neg (by omega), if_neg (by omega), if_neg (by omega), if_pos (by omega), decide_eq_true_eq]; omega)]
           · unfold cS; rw [if_neg (by omega), if_neg (by omega), if_neg (by omega), if_neg (by omega), if_pos (by omega)]; first | rw [if_pos (by omega)] | rw [if_neg (by omega), k_same])
      · skip
        refine g_aload_n (i := 0) (pc := 210) dX3_doCommandOfScript_210 rfl rfl ?_
        refine g_getf (pc := 211) f_X3_23 dX3_doCommandOfScript_211 (c_0) rfl ?_
        refine g_iload_n (i := 3) (pc := 214) dX3_doCommandOfScript_214 rfl rfl ?_
        refine g_iload (pc := 215) dX3_doCommandOfScript_215 rfl ?_
        have hi := hK.2.2.1 1
        refine G.eqw c_self1 ?_
        refine g_v2 (pc := 217) okV_X1_doTear rfl l_X3_216 dX3_doCommandOfScript_217 (m_at0 c_ok1) hc_1 (by decide) (by decide) (Nat.le_of_ble_eq_true rfl) (t_X1_doTear c_ok1 hi (by omega) (by omega)) (by simp only [m_len]) ?_
        simp only [Option.toList, List.cons_append, List.nil_append]
        refine G.eqw (c_mem1 (σ := dtt (k_ms (κ) 1) ((d / 1000 % 10)) ((d / 100 % 10)))) ?_
        refine G.eqS (v' := vI (ro (k_ms (κ) 1) ((d / 1000 % 10)) ((d / 100 % 10)))) rfl ?_
        have bb := ro_rng hi ((d / 1000 % 10)) ((d / 100 % 10))
        have hK := kinv_ms (i := 1) hK (inv_dtt hi ((d / 1000 % 10)) ((d / 100 % 10)))
        refine g_iconst (pc := 220) dX3_doCommandOfScript_220 ?_
        refine g_c_eq (tgt := 228) (pc := 221) dX3_doCommandOfScript_221 (by omega) (by decide) (fun c221 => ?_) (fun c221 => ?_)
        · skip
          refine g_iconst (pc := 228) dX3_doCommandOfScript_228 ?_
          refine g_zret (pc := 229) rfl dX3_doCommandOfScript_229 (by omega) (fun h => h) ?_
          first
          | (refine dt_i ?_ ?_
             · rw [b2_t (b := cV (k_ms κ 1) d) (by unfold cV; rw [if_neg (by omega), if_neg (by omega), if_neg (by omega), if_neg (by omega), if_pos (by omega), decide_eq_true_eq]; omega)]
             · unfold cS; rw [if_neg (by omega), if_neg (by omega), if_neg (by omega), if_neg (by omega), if_pos (by omega)]; first | rw [if_pos (by omega)] | rw [if_neg (by omega), k_same])
          | (refine dt_i ?_ ?_
             · rw [b2_f (b := cV (k_ms κ 1) d) (by unfold cV; rw [if_neg (by omega), if_neg (by omega), if_neg (by omega), if_neg (by omega), if_pos (by omega), decide_eq_true_eq]; omega)]
             · unfold cS; rw [if_neg (by omega), if_neg (by omega), if_neg (by omega), if_neg (by omega), if_pos (by omega)]; first | rw [if_pos (by omega)] | rw [if_neg (by omega), k_same])
        · skip
          refine g_iconst (pc := 224) dX3_doCommandOfScript_224 ?_
          refine g_goto (tgt := 229) (pc := 225) dX3_doCommandOfScript_225 (by decide) ?_
          refine g_zret (pc := 229) rfl dX3_doCommandOfScript_229 (by omega) (fun h => h) ?_
          first
          | (refine dt_i ?_ ?_
             · rw [b2_t (b := cV (k_ms κ 1) d) (by unfold cV; rw [if_neg (by omega), if_neg (by omega), if_neg (by omega), if_neg (by omega), if_pos (by omega), decide_eq_true_eq]; omega)]
             · unfold cS; rw [if_neg (by omega), if_neg (by omega), if_neg (by omega), if_neg (by omega), if_pos (by omega)]; first | rw [if_pos (by omega)] | rw [if_neg (by omega), k_same])
          | (refine dt_i ?_ ?_
             · rw [b2_f (b := cV (k_ms κ 1) d) (by unfold cV; rw [if_neg (by omega), if_neg (by omega), if_neg (by omega), if_neg (by omega), if_pos (by omega), decide_eq_true_eq]; omega)]
             · unfold cS; rw [if_neg (by omega), if_neg (by omega), if_neg (by omega), if_neg (by omega), if_pos (by omega)]; first | rw [if_pos (by omega)] | rw [if_neg (by omega), k_same])
    · refine g_tsIn (tgt := 230) (pc := 60) dX3_doCommandOfScript_60 (by omega) (by omega) (by omega) (by rw [ew60]; rfl) (by decide) ?_
      refine g_iload (pc := 230) dX3_doCommandOfScript_230 rfl ?_
      refine g_bipush (pc := 232) dX3_doCommandOfScript_232 (by decide) ?_
      refine g_c_ge (tgt := 254) (pc := 234) dX3_doCommandOfScript_234 (by omega) (by decide) (fun c234 => ?_) (fun c234 => ?_)
      · skip
        refine g_iconst (pc := 254) dX3_doCommandOfScript_254 ?_
        refine g_zret (pc := 255) rfl dX3_doCommandOfScript_255 (by omega) (fun h => h) ?_
        first
        | (refine dt_i ?_ ?_
           · rw [b2_t (b := cV (k_ms κ 1) d) (by unfold cV; rw [if_neg (by omega), if_neg (by omega), if_neg (by omega), if_neg (by omega), if_neg (by omega), if_pos (by omega), decide_eq_true_eq]; omega)]
           · unfold cS; rw [if_neg (by omega), if_neg (by omega), if_neg (by omega), if_neg (by omega), if_neg (by omega), if_pos (by omega)]; first | rw [if_pos (by omega)] | rw [if_neg (by omega), k_same])
        | (refine dt_i ?_ ?_
           · rw [b2_f (b := cV (k_ms κ 1) d) (by unfold cV; rw [if_neg (by omega), if_neg (by omega), if_neg (by omega), if_neg (by omega), if_neg (by omega), if_pos (by omega), decide_eq_true_eq]; omega)]
           · unfold cS; rw [if_neg (by omega), if_neg (by omega), if_neg (by omega), if_neg (by omega), if_neg (by omega), if_pos (by omega)]; first | rw [if_pos (by omega)] | rw [if_neg (by omega), k_same])
      · skip
        refine g_aload_n (i := 0) (pc := 237) dX3_doCommandOfScript_237 rfl rfl ?_
        refine g_getf (pc := 238) f_X3_23 dX3_doCommandOfScript_238 (c_0) rfl ?_
        refine g_iload (pc := 241) dX3_doCommandOfScript_241 rfl ?_
        have hi := hK.2.2.1 1
        refine G.eqw c_self1 ?_
        refine g_v1 (pc := 243) okV_X1_doPress rfl l_X3_221 dX3_doCommandOfScript_243 (m_at0 c_ok1) hc_1 (by decide) (by decide) (Nat.le_of_ble_eq_true rfl) (t_X1_doPress c_ok1 hi (by omega)) (by simp only [m_len]) ?_
        simp only [Option.toList, List.cons_append, List.nil_append]
        refine G.eqw (c_mem1 (σ := dp (k_ms (κ) 1) ((d % 100)))) ?_
        refine G.eqS (v' := vI (dpv (k_ms (κ) 1) ((d % 100)))) rfl ?_
        have bb := dpv_rng (k_ms (κ) 1) ((d % 100))
        have hK := kinv_ms (i := 1) hK (inv_dp hi ((d % 100)))
        refine g_iconst (pc := 246) dX3_doCommandOfScript_246 ?_
        refine g_c_eq (tgt := 254) (pc := 247) dX3_doCommandOfScript_247 (by omega) (by decide) (fun c247 => ?_) (fun c247 => ?_)
        · skip
          refine g_iconst (pc := 254) dX3_doCommandOfScript_254 ?_
          refine g_zret (pc := 255) rfl dX3_doCommandOfScript_255 (by omega) (fun h => h) ?_
          first
          | (refine dt_i ?_ ?_
             · rw [b2_t (b := cV (k_ms κ 1) d) (by unfold cV; rw [if_neg (by omega), if_neg (by omega), if_neg (by omega), if_neg (by omega), if_neg (by omega), if_pos (by omega), decide_eq_true_eq]; omega)]
             · unfold cS; rw [if_neg (by omega), if_neg (by omega), if_neg (by omega), if_neg (by omega), if_neg (by omega), if_pos (by omega)]; first | rw [if_pos (by omega)] | rw [if_neg (by omega), k_same])
          | (refine dt_i ?_ ?_
             · rw [b2_f (b := cV (k_ms κ 1) d) (by unfold cV; rw [if_neg (by omega), if_neg (by omega), if_neg (by omega), if_neg (by omega), if_neg (by omega), if_pos (by omega), decide_eq_true_eq]; omega)]
             · unfold cS; rw [if_neg (by omega), if_neg (by omega), if_neg (by omega), if_neg (by omega), if_neg (by omega), if_pos (by omega)]; first | rw [if_pos (by omega)] | rw [if_neg (by omega), k_same])
        · skip
          refine g_iconst (pc := 250) dX3_doCommandOfScript_250 ?_
          refine g_goto (tgt := 255) (pc := 251) dX3_doCommandOfScript_251 (by decide) ?_
          refine g_zret (pc := 255) rfl dX3_doCommandOfScript_255 (by omega) (fun h => h) ?_
          first
          | (refine dt_i ?_ ?_
             · rw [b2_t (b := cV (k_ms κ 1) d) (by unfold cV; rw [if_neg (by omega), if_neg (by omega), if_neg (by omega), if_neg (by omega), if_neg (by omega), if_pos (by omega), decide_eq_true_eq]; omega)]
             · unfold cS; rw [if_neg (by omega), if_neg (by omega), if_neg (by omega), if_neg (by omega), if_neg (by omega), if_pos (by omega)]; first | rw [if_pos (by omega)] | rw [if_neg (by omega), k_same])
          | (refine dt_i ?_ ?_
             · rw [b2_f (b := cV (k_ms κ 1) d) (by unfold cV; rw [if_neg (by omega), if_neg (by omega), if_neg (by omega), if_neg (by omega), if_neg (by omega), if_pos (by omega), decide_eq_true_eq]; omega)]
             · unfold cS; rw [if_neg (by omega), if_neg (by omega), if_neg (by omega), if_neg (by omega), if_neg (by omega), if_pos (by omega)]; first | rw [if_pos (by omega)] | rw [if_neg (by omega), k_same])
    · refine g_tsIn (tgt := 256) (pc := 60) dX3_doCommandOfScript_60 (by omega) (by omega) (by omega) (by rw [ew60]; rfl) (by decide) ?_
      refine g_aload_n (i := 0) (pc := 256) dX3_doCommandOfScript_256 rfl rfl ?_
      refine g_getf (pc := 257) f_X3_23 dX3_doCommandOfScript_257 (c_0) rfl ?_
      refine g_iload_n (i := 3) (pc := 260) dX3_doCommandOfScript_260 rfl rfl ?_
      refine g_iload (pc := 261) dX3_doCommandOfScript_261 rfl ?_
      have hi := hK.2.2.1 1
      refine G.eqw c_self1 ?_
      refine g_v2 (pc := 263) okV_X1_hasPage rfl l_X3_276 dX3_doCommandOfScript_263 (m_at0 c_ok1) hc_1 (by decide) (by decide) (Nat.le_of_ble_eq_true rfl) (t_X1_hasPage c_ok1 hi (by omega) (by omega)) (by simp only [m_len]) ?_
      simp only [Option.toList, List.cons_append, List.nil_append]
      refine G.eqw c_self1.symm ?_
      have bb := b2_rng (hasPg (k_ms (κ) 1) ((d / 1000 % 10)) ((d / 10 % 100)))
      refine g_z_eq (tgt := 288) (pc := 266) dX3_doCommandOfScript_266 (by omega) (by decide) (fun c266 => ?_) (fun c266 => ?_)
      · skip
        refine g_iconst (pc := 288) dX3_doCommandOfScript_288 ?_
        refine g_zret (pc := 289) rfl dX3_doCommandOfScript_289 (by omega) (fun h => h) ?_
        first
        | (refine dt_i ?_ ?_
           · rw [b2_t (b := cV (k_ms κ 1) d) (by unfold cV; rw [if_neg (by omega), if_neg (by omega), if_neg (by omega), if_neg (by omega), if_neg (by omega), if_neg (by omega), if_pos (by omega), decide_eq_true_eq]; omega)]
           · unfold cS; rw [if_neg (by omega), if_neg (by omega), if_neg (by omega), if_neg (by omega), if_neg (by omega), if_neg (by omega), k_same])
        | (refine dt_i ?_ ?_
           · rw [b2_f (b := cV (k_ms κ 1) d) (by unfold cV; rw [if_neg (by omega), if_neg (by omega), if_neg (by omega), if_neg (by omega), if_neg (by omega), if_neg (by omega), if_pos (by omega), decide_eq_true_eq]; omega)]
           · unfold cS; rw [if_neg (by omega), if_neg (by omega), if_neg (by omega), if_neg (by omega), if_neg (by omega), if_neg (by omega), k_same])
      · skip
        refine g_aload_n (i := 0) (pc := 269) dX3_doCommandOfScript_269 rfl rfl ?_
        refine g_getf (pc := 270) f_X3_23 dX3_doCommandOfScript_270 (c_0) rfl ?_
        refine g_iload_n (i := 3) (pc := 273) dX3_doCommandOfScript_273 rfl rfl ?_
        refine g_iload (pc := 274) dX3_doCommandOfScript_274 rfl ?_
        have hi := hK.2.2.1 1
        refine G.eqw c_self1 ?_
        refine g_v2 (pc := 276) okV_X1_valueOf rfl l_X3_131 dX3_doCommandOfScript_276 (m_at0 c_ok1) hc_1 (by decide) (by decide) (Nat.le_of_ble_eq_true rfl) (t_X1_valueOf c_ok1 hi (by omega) (by omega)) (by simp only [m_len]) ?_
        simp only [Option.toList, List.cons_append, List.nil_append]
        refine G.eqw c_self1.symm ?_
        have bb := vo_rng hi ((d / 1000 % 10)) ((d / 10 % 100))
        refine g_iload (pc := 279) dX3_doCommandOfScript_279 rfl ?_
        refine g_c_ne (tgt := 288) (pc := 281) dX3_doCommandOfScript_281 (by omega) (by decide) (fun c281 => ?_) (fun c281 => ?_)
        · skip
          refine g_iconst (pc := 288) dX3_doCommandOfScript_288 ?_
          refine g_zret (pc := 289) rfl dX3_doCommandOfScript_289 (by omega) (fun h => h) ?_
          first
          | (refine dt_i ?_ ?_
             · rw [b2_t (b := cV (k_ms κ 1) d) (by unfold cV; rw [if_neg (by omega), if_neg (by omega), if_neg (by omega), if_neg (by omega), if_neg (by omega), if_neg (by omega), if_pos (by omega), decide_eq_true_eq]; omega)]
             · unfold cS; rw [if_neg (by omega), if_neg (by omega), if_neg (by omega), if_neg (by omega), if_neg (by omega), if_neg (by omega), k_same])
          | (refine dt_i ?_ ?_
             · rw [b2_f (b := cV (k_ms κ 1) d) (by unfold cV; rw [if_neg (by omega), if_neg (by omega), if_neg (by omega), if_neg (by omega), if_neg (by omega), if_neg (by omega), if_pos (by omega), decide_eq_true_eq]; omega)]
             · unfold cS; rw [if_neg (by omega), if_neg (by omega), if_neg (by omega), if_neg (by omega), if_neg (by omega), if_neg (by omega), k_same])
        · skip
          refine g_iconst (pc := 284) dX3_doCommandOfScript_284 ?_
          refine g_goto (tgt := 289) (pc := 285) dX3_doCommandOfScript_285 (by decide) ?_
          refine g_zret (pc := 289) rfl dX3_doCommandOfScript_289 (by omega) (fun h => h) ?_
          first
          | (refine dt_i ?_ ?_
             · rw [b2_t (b := cV (k_ms κ 1) d) (by unfold cV; rw [if_neg (by omega), if_neg (by omega), if_neg (by omega), if_neg (by omega), if_neg (by omega), if_neg (by omega), if_pos (by omega), decide_eq_true_eq]; omega)]
             · unfold cS; rw [if_neg (by omega), if_neg (by omega), if_neg (by omega), if_neg (by omega), if_neg (by omega), if_neg (by omega), k_same])
          | (refine dt_i ?_ ?_
             · rw [b2_f (b := cV (k_ms κ 1) d) (by unfold cV; rw [if_neg (by omega), if_neg (by omega), if_neg (by omega), if_neg (by omega), if_neg (by omega), if_neg (by omega), if_pos (by omega), decide_eq_true_eq]; omega)]
             · unfold cS; rw [if_neg (by omega), if_neg (by omega), if_neg (by omega), if_neg (by omega), if_neg (by omega), if_neg (by omega), k_same])
    · refine g_tsIn (tgt := 290) (pc := 60) dX3_doCommandOfScript_60 (by omega) (by omega) (by omega) (by rw [ew60]; rfl) (by decide) ?_
      refine g_iload (pc := 290) dX3_doCommandOfScript_290 rfl ?_
      refine g_iconst (pc := 292) dX3_doCommandOfScript_292 ?_
      refine g_c_gt (tgt := 337) (pc := 293) dX3_doCommandOfScript_293 (by omega) (by decide) (fun c293 => ?_) (fun c293 => ?_)
      · skip
        refine g_iconst (pc := 337) dX3_doCommandOfScript_337 ?_
        refine g_zret (pc := 338) rfl dX3_doCommandOfScript_338 (by omega) (fun h => h) ?_
        first
        | (refine dt_i ?_ ?_
           · rw [b2_t (b := cV (k_ms κ 1) d) (by unfold cV; rw [if_neg (by omega), if_neg (by omega), if_neg (by omega), if_neg (by omega), if_neg (by omega), if_neg (by omega), if_neg (by omega), if_pos (by omega), decide_eq_true_eq]; omega)]
           · unfold cS; rw [if_neg (by omega), if_neg (by omega), if_neg (by omega), if_neg (by omega), if_neg (by omega), if_neg (by omega), k_same])
        | (refine dt_i ?_ ?_
           · rw [b2_f (b := cV (k_ms κ 1) d) (by unfold cV; rw [if_neg (by omega), if_neg (by omega), if_neg (by omega), if_neg (by omega), if_neg (by omega), if_neg (by omega), if_neg (by omega), if_pos (by omega), decide_eq_true_eq]; omega)]
           · unfold cS; rw [if_neg (by omega), if_neg (by omega), if_neg (by omega), if_neg (by omega), if_neg (by omega), if_neg (by omega), k_same])
      · skip
        refine g_aload_n (i := 0) (pc := 296) dX3_doCommandOfScript_296 rfl rfl ?_
        refine g_getf (pc := 297) f_X3_23 dX3_doCommandOfScript_297 (c_0) rfl ?_
        refine g_iload_n (i := 3) (pc := 300) dX3_doCommandOfScript_300 rfl rfl ?_
        refine g_iload (pc := 301) dX3_doCommandOfScript_301 rfl ?_
        have hi := hK.2.2.1 1
        refine G.eqw c_self1 ?_
        refine g_v2 (pc := 303) okV_X1_hasGroup rfl l_X3_281 dX3_doCommandOfScript_303 (m_at0 c_ok1) hc_1 (by decide) (by decide) (Nat.le_of_ble_eq_true rfl) (t_X1_hasGroup c_ok1 hi (by omega) (by omega)) (by simp only [m_len]) ?_
        simp only [Option.toList, List.cons_append, List.nil_append]
        refine G.eqw c_self1.symm ?_
        have bb := b2_rng (hasGr (k_ms (κ) 1) ((d / 1000 % 10)) ((d / 100 % 10)))
        refine g_z_eq (tgt := 337) (pc := 306) dX3_doCommandOfScript_306 (by omega) (by decide) (fun c306 => ?_) (fun c306 => ?_)
        · skip
          refine g_iconst (pc := 337) dX3_doCommandOfScript_337 ?_
          refine g_zret (pc := 338) rfl dX3_doCommandOfScript_338 (by omega) (fun h => h) ?_
          first
          | (refine dt_i ?_ ?_
             · rw [b2_t (b := cV (k_ms κ 1) d) (by unfold cV; rw [if_neg (by omega), if_neg (by omega), if_neg (by omega), if_neg (by omega), if_neg (by omega), if_neg (by omega), if_neg (by omega), if_pos (by omega), decide_eq_true_eq]; omega)]
             · unfold cS; rw [if_neg (by omega), if_neg (by omega), if_neg (by omega), if_neg (by omega), if_neg (by omega), if_neg (by omega), k_same])
          | (refine dt_i ?_ ?_
             · rw [b2_f (b := cV (k_ms κ 1) d) (by unfold cV; rw [if_neg (by omega), if_neg (by omega), if_neg (by omega), if_neg (by omega), if_neg (by omega), if_neg (by omega), if_neg (by omega), if_pos (by omega), decide_eq_true_eq]; omega)]
             · unfold cS; rw [if_neg (by omega), if_neg (by omega), if_neg (by omega), if_neg (by omega), if_neg (by omega), if_neg (by omega), k_same])
        · skip
          refine g_aload_n (i := 0) (pc := 309) dX3_doCommandOfScript_309 rfl rfl ?_
          refine g_getf (pc := 310) f_X3_23 dX3_doCommandOfScript_310 (c_0) rfl ?_
          refine g_iload_n (i := 3) (pc := 313) dX3_doCommandOfScript_313 rfl rfl ?_
          refine g_iload (pc := 314) dX3_doCommandOfScript_314 rfl ?_
          have hi := hK.2.2.1 1
          refine G.eqw c_self1 ?_
          refine g_v2 (pc := 316) okV_X1_isBig rfl l_X3_137 dX3_doCommandOfScript_316 (m_at0 c_ok1) hc_1 (by decide) (by decide) (Nat.le_of_ble_eq_true rfl) (t_X1_isBig c_ok1 hi (by omega) (by omega)) (by simp only [m_len]) ?_
          simp only [Option.toList, List.cons_append, List.nil_append]
          refine G.eqw c_self1.symm ?_
          have bb := b2_rng (big (k_ms (κ) 1) ((d / 1000 % 10)) ((d / 100 % 10)))
          refine g_iload (pc := 319) dX3_doCommandOfScript_319 rfl ?_
          refine g_iconst (pc := 321) dX3_doCommandOfScript_321 ?_
          refine g_c_ne (tgt := 329) (pc := 322) dX3_doCommandOfScript_322 (by omega) (by decide) (fun c322 => ?_) (fun c322 => ?_)
          · skip
            refine g_iconst (pc := 329) dX3_doCommandOfScript_329 ?_
            refine g_c_ne (tgt := 337) (pc := 330) dX3_doCommandOfScript_330 (by omega) (by decide) (fun c330 => ?_) (fun c330 => ?_)
            · skip
              refine g_iconst (pc := 337) dX3_doCommandOfScript_337 ?_
              refine g_zret (pc := 338) rfl dX3_doCommandOfScript_338 (by omega) (fun h => h) ?_
              first
              | (refine dt_i ?_ ?_
                 · rw [b2_t (b := cV (k_ms κ 1) d) (by unfold cV; rw [if_neg (by omega), if_neg (by omega), if_neg (by omega), if_neg (by omega), if_neg (by omega), if_neg (by omega), if_neg (by omega), if_pos (by omega), decide_eq_true_eq]; omega)]
                 · unfold cS; rw [if_neg (by omega), if_neg (by omega), if_neg (by omega), if_neg (by omega), if_neg (by omega), if_neg (by omega), k_same])
              | (refine dt_i ?_ ?_
                 · rw [b2_f (b := cV (k_ms κ 1) d) (by unfold cV; rw [if_neg (by omega), if_neg (by omega), if_neg (by omega), if_neg (by omega), if_neg (by omega), if_neg (by omega), if_neg (by omega), if_pos (by omega), decide_eq_true_eq]; omega)]
                 · unfold cS; rw [if_neg (by omega), if_neg (by omega), if_neg (by omega), if_neg (by omega), if_neg (by omega), if_neg (by omega), k_same])
            · skip
              refine g_iconst (pc := 333) dX3_doCommandOfScript_333 ?_
              refine g_goto (tgt := 338) (pc := 334) dX3_doCommandOfScript_334 (by decide) ?_
              refine g_zret (pc := 338) rfl dX3_doCommandOfScript_338 (by omega) (fun h => h) ?_
              first
              | (refine dt_i ?_ ?_
                 · rw [b2_t (b := cV (k_ms κ 1) d) (by unfold cV; rw [if_neg (by omega), if_neg (by omega), if_neg (by omega), if_neg (by omega), if_neg (by omega), if_neg (by omega), if_neg (by omega), if_pos (by omega), decide_eq_true_eq]; omega)]
                 · unfold cS; rw [if_neg (by omega), if_neg (by omega), if_neg (by omega), if_neg (by omega), if_neg (by omega), if_neg (by omega), k_same])
              | (refine dt_i ?_ ?_
                 · rw [b2_f (b := cV (k_ms κ 1) d) (by unfold cV; rw [if_neg (by omega), if_neg (by omega), if_neg (by omega), if_neg (by omega), if_neg (by omega), if_neg (by omega), if_neg (by omega), if_pos (by omega), decide_eq_true_eq]; omega)]
                 · unfold cS; rw [if_neg (by omega), if_neg (by omega), if_neg (by omega), if_neg (by omega), if_neg (by omega), if_neg (by omega), k_same])
          · skip
            refine g_iconst (pc := 325) dX3_doCommandOfScript_325 ?_
            refine g_goto (tgt := 330) (pc := 326) dX3_doCommandOfScript_326 (by decide) ?_
            refine g_c_ne (tgt := 337) (pc := 330) dX3_doCommandOfScript_330 (by omega) (by decide) (fun c330 => ?_) (fun c330 => ?_)
            · skip
              refine g_iconst (pc := 337) dX3_doCommandOfScript_337 ?_
              refine g_zret (pc := 338) rfl dX3_doCommandOfScript_338 (by omega) (fun h => h) ?_
              first
              | (refine dt_i ?_ ?_
                 · rw [b2_t (b := cV (k_ms κ 1) d) (by unfold cV; rw [if_neg (by omega), if_neg (by omega), if_neg (by omega), if_neg (by omega), if_neg (by omega), if_neg (by omega), if_neg (by omega), if_pos (by omega), decide_eq_true_eq]; omega)]
                 · unfold cS; rw [if_neg (by omega), if_neg (by omega), if_neg (by omega), if_neg (by omega), if_neg (by omega), if_neg (by omega), k_same])
              | (refine dt_i ?_ ?_
                 · rw [b2_f (b := cV (k_ms κ 1) d) (by unfold cV; rw [if_neg (by omega), if_neg (by omega), if_neg (by omega), if_neg (by omega), if_neg (by omega), if_neg (by omega), if_neg (by omega), if_pos (by omega), decide_eq_true_eq]; omega)]
                 · unfold cS; rw [if_neg (by omega), if_neg (by omega), if_neg (by omega), if_neg (by omega), if_neg (by omega), if_neg (by omega), k_same])
            · skip
              refine g_iconst (pc := 333) dX3_doCommandOfScript_333 ?_
              refine g_goto (tgt := 338) (pc := 334) dX3_doCommandOfScript_334 (by decide) ?_
              refine g_zret (pc := 338) rfl dX3_doCommandOfScript_338 (by omega) (fun h => h) ?_
              first
              | (refine dt_i ?_ ?_
                 · rw [b2_t (b := cV (k_ms κ 1) d) (by unfold cV; rw [if_neg (by omega), if_neg (by omega), if_neg (by omega), if_neg (by omega), if_neg (by omega), if_neg (by omega), if_neg (by omega), if_pos (by omega), decide_eq_true_eq]; omega)]
                 · unfold cS; rw [if_neg (by omega), if_neg (by omega), if_neg (by omega), if_neg (by omega), if_neg (by omega), if_neg (by omega), k_same])
              | (refine dt_i ?_ ?_
                 · rw [b2_f (b := cV (k_ms κ 1) d) (by unfold cV; rw [if_neg (by omega), if_neg (by omega), if_neg (by omega), if_neg (by omega), if_neg (by omega), if_neg (by omega), if_neg (by omega), if_pos (by omega), decide_eq_true_eq]; omega)]
                 · unfold cS; rw [if_neg (by omega), if_neg (by omega), if_neg (by omega), if_neg (by omega), if_neg (by omega), if_neg (by omega), k_same])
    · refine g_tsIn (tgt := 339) (pc := 60) dX3_doCommandOfScript_60 (by omega) (by omega) (by omega) (by rw [ew60]; rfl) (by decide) ?_
      refine g_iload (pc := 339) dX3_doCommandOfScript_339 rfl ?_
      refine g_bipush (pc := 341) dX3_doCommandOfScript_341 (by decide) ?_
      refine g_c_ge (tgt := 362) (pc := 343) dX3_doCommandOfScript_343 (by omega) (by decide) (fun c343 => ?_) (fun c343 => ?_)
      · skip
        refine g_iconst (pc := 362) dX3_doCommandOfScript_362 ?_
        refine g_zret (pc := 363) rfl dX3_doCommandOfScript_363 (by omega) (fun h => h) ?_
        first
        | (refine dt_i ?_ ?_
           · rw [b2_t (b := cV (k_ms κ 1) d) (by unfold cV; rw [if_neg (by omega), if_neg (by omega), if_neg (by omega), if_neg (by omega), if_neg (by omega), if_neg (by omega), if_neg (by omega), if_neg (by omega), decide_eq_true_eq]; omega)]
           · unfold cS; rw [if_neg (by omega), if_neg (by omega), if_neg (by omega), if_neg (by omega), if_neg (by omega), if_neg (by omega), k_same])
        | (refine dt_i ?_ ?_
           · rw [b2_f (b := cV (k_ms κ 1) d) (by unfold cV; rw [if_neg (by omega), if_neg (by omega), if_neg (by omega), if_neg (by omega), if_neg (by omega), if_neg (by omega), if_neg (by omega), if_neg (by omega), decide_eq_true_eq]; omega)]
           · unfold cS; rw [if_neg (by omega), if_neg (by omega), if_neg (by omega), if_neg (by omega), if_neg (by omega), if_neg (by omega), k_same])
      · skip
        refine g_aload_n (i := 0) (pc := 346) dX3_doCommandOfScript_346 rfl rfl ?_
        refine g_getf (pc := 347) f_X3_23 dX3_doCommandOfScript_347 (c_0) rfl ?_
        have hi := hK.2.2.1 1
        refine G.eqw c_self1 ?_
        refine g_v0 (pc := 350) okV_X1_freeFrames rfl l_X3_89 dX3_doCommandOfScript_350 (m_at0 c_ok1) hc_1 (by decide) (by decide) (Nat.le_of_ble_eq_true rfl) (t_X1_freeFrames c_ok1 hi) (by simp only [m_len]) ?_
        simp only [Option.toList, List.cons_append, List.nil_append]
        refine G.eqw c_self1.symm ?_
        have bb := nff_rng (k_ms (κ) 1)
        refine g_iload (pc := 353) dX3_doCommandOfScript_353 rfl ?_
        refine g_c_lt (tgt := 362) (pc := 355) dX3_doCommandOfScript_355 (by omega) (by decide) (fun c355 => ?_) (fun c355 => ?_)
        · skip
          refine g_iconst (pc := 362) dX3_doCommandOfScript_362 ?_
          refine g_zret (pc := 363) rfl dX3_doCommandOfScript_363 (by omega) (fun h => h) ?_
          first
          | (refine dt_i ?_ ?_
             · rw [b2_t (b := cV (k_ms κ 1) d) (by unfold cV; rw [if_neg (by omega), if_neg (by omega), if_neg (by omega), if_neg (by omega), if_neg (by omega), if_neg (by omega), if_neg (by omega), if_neg (by omega), decide_eq_true_eq]; omega)]
             · unfold cS; rw [if_neg (by omega), if_neg (by omega), if_neg (by omega), if_neg (by omega), if_neg (by omega), if_neg (by omega), k_same])
          | (refine dt_i ?_ ?_
             · rw [b2_f (b := cV (k_ms κ 1) d) (by unfold cV; rw [if_neg (by omega), if_neg (by omega), if_neg (by omega), if_neg (by omega), if_neg (by omega), if_neg (by omega), if_neg (by omega), if_neg (by omega), decide_eq_true_eq]; omega)]
             · unfold cS; rw [if_neg (by omega), if_neg (by omega), if_neg (by omega), if_neg (by omega), if_neg (by omega), if_neg (by omega), k_same])
        · skip
          refine g_iconst (pc := 358) dX3_doCommandOfScript_358 ?_
          refine g_goto (tgt := 363) (pc := 359) dX3_doCommandOfScript_359 (by decide) ?_
          refine g_zret (pc := 363) rfl dX3_doCommandOfScript_363 (by omega) (fun h => h) ?_
          first
          | (refine dt_i ?_ ?_
             · rw [b2_t (b := cV (k_ms κ 1) d) (by unfold cV; rw [if_neg (by omega), if_neg (by omega), if_neg (by omega), if_neg (by omega), if_neg (by omega), if_neg (by omega), if_neg (by omega), if_neg (by omega), decide_eq_true_eq]; omega)]
             · unfold cS; rw [if_neg (by omega), if_neg (by omega), if_neg (by omega), if_neg (by omega), if_neg (by omega), if_neg (by omega), k_same])
          | (refine dt_i ?_ ?_
             · rw [b2_f (b := cV (k_ms κ 1) d) (by unfold cV; rw [if_neg (by omega), if_neg (by omega), if_neg (by omega), if_neg (by omega), if_neg (by omega), if_neg (by omega), if_neg (by omega), if_neg (by omega), decide_eq_true_eq]; omega)]
             · unfold cS; rw [if_neg (by omega), if_neg (by omega), if_neg (by omega), if_neg (by omega), if_neg (by omega), if_neg (by omega), k_same])
  · refine g_tsOut (tgt := 364) (pc := 60) dX3_doCommandOfScript_60 (by omega) (by omega) (by decide) ?_
    refine g_iconst (pc := 364) dX3_doCommandOfScript_364 ?_
    refine g_zret (pc := 365) rfl dX3_doCommandOfScript_365 (by omega) (fun h => h) ?_
    first
    | (refine dt_i ?_ ?_
       · rw [b2_t (b := cV (k_ms κ 1) d) (by unfold cV; rw [if_neg (by omega), if_neg (by omega), if_neg (by omega), if_neg (by omega), if_neg (by omega), if_neg (by omega), if_neg (by omega), if_neg (by omega), decide_eq_true_eq]; omega)]
       · unfold cS; rw [if_neg (by omega), if_neg (by omega), if_neg (by omega), if_neg (by omega), if_neg (by omega), if_neg (by omega), k_same])
    | (refine dt_i ?_ ?_
       · rw [b2_f (b := cV (k_ms κ 1) d) (by unfold cV; rw [if_neg (by omega), if_neg (by omega), if_neg (by omega), if_neg (by omega), if_neg (by omega), if_neg (by omega), if_neg (by omega), if_neg (by omega), decide_eq_true_eq]; omega)]
       · unfold cS; rw [if_neg (by omega), if_neg (by omega), if_neg (by omega), if_neg (by omega), if_neg (by omega), if_neg (by omega), k_same])
set_option maxRecDepth 20000 in
set_option maxHeartbeats 4000000 in
theorem t_X3_doStep {κ : KT} {δ : DT} {o : Nat → Int} (hK : KInv κ) {r : Int} (h_r : 0 ≤ r ∧ r < 2147483648) : GM M_X3_doStep false [vR 0, vI r] (cW κ δ o) 0 0 (dt none (cW (k_setms κ 1 (sT (k_ms κ 1) r)) δ o)) := by
  show G _ none _ _ 0 [some (vR 0), some (vI r), none] [] _ _ _ _
  refine g_iload_n (i := 1) (pc := 0) dX3_doStep_0 rfl rfl ?_
  refine g_bipush (pc := 1) dX3_doStep_1 (by decide) ?_
  refine g_idiv (pc := 3) dX3_doStep_3 (by omega) (by omega) ?_
  refine G.eqS (congrArg (fun z => vI z) (Int.tdiv_eq_ediv_of_nonneg (by omega))) ?_
  refine g_iconst (pc := 4) dX3_doStep_4 ?_
  refine g_irem (pc := 5) dX3_doStep_5 (by omega) (by omega) ?_
  refine G.eqS (congrArg (fun z => vI z) (Int.tmod_eq_emod_of_nonneg (by omega))) ?_
  refine g_istore_n (i := 2) (pc := 6) dX3_doStep_6 rfl (by decide) rfl ?_
  simp only [List.set_cons_succ, List.set_cons_zero]
  refine g_aload_n (i := 0) (pc := 7) dX3_doStep_7 rfl rfl ?_
  refine g_getf (pc := 8) f_X3_23 dX3_doStep_8 (c_0) rfl ?_
  refine g_iload_n (i := 2) (pc := 11) dX3_doStep_11 rfl rfl ?_
  have hi := hK.2.2.1 1
  refine G.eqw c_self1 ?_
  refine g_v1 (pc := 12) okV_X1_hasProcess rfl l_X3_271 dX3_doStep_12 (m_at0 c_ok1) hc_1 (by decide) (by decide) (Nat.le_of_ble_eq_true rfl) (t_X1_hasProcess c_ok1 hi (by omega)) (by simp only [m_len]) ?_
  simp only [Option.toList, List.cons_append, List.nil_append]
  refine G.eqw c_self1.symm ?_
  have bb := b2_rng (hasP (k_ms (κ) 1) ((r / 16 % 4)))
  refine g_z_ne (tgt := 19) (pc := 15) dX3_doStep_15 (by omega) (by decide) (fun c15 => ?_) (fun c15 => ?_)
  · skip
    refine g_iload_n (i := 1) (pc := 19) dX3_doStep_19 rfl rfl ?_
    refine g_bipush (pc := 20) dX3_doStep_20 (by decide) ?_
    refine g_irem (pc := 22) dX3_doStep_22 (by omega) (by omega) ?_
    refine G.eqS (congrArg (fun z => vI z) (Int.tmod_eq_emod_of_nonneg (by omega))) ?_
    by_cases sw23 : 0 ≤ (r % 8) ∧ (r % 8) ≤ 3
    · rcases (by omega : (r % 8) = 0 ∨ (r % 8) = 1 ∨ (r % 8) = 2 ∨ (r % 8) = 3) with ew23 | ew23 | ew23 | ew23
      · refine g_tsIn (tgt := 52) (pc := 23) dX3_doStep_23 (by omega) (by omega) (by omega) (by rw [ew23]; rfl) (by decide) ?_
        refine g_aload_n (i := 0) (pc := 52) dX3_doStep_52 rfl rfl ?_
        refine g_getf (pc := 53) f_X3_23 dX3_doStep_53 (c_0) rfl ?_
        refine g_iload_n (i := 2) (pc := 56) dX3_doStep_56 rfl rfl ?_
        have hi := hK.2.2.1 1
        refine G.eqw c_self1 ?_
        refine g_v1 (pc := 57) okV_X1_doFork rfl l_X3_194 dX3_doStep_57 (m_at0 c_ok1) hc_1 (by decide) (by decide) (Nat.le_of_ble_eq_true rfl) (t_X1_doFork c_ok1 hi (by omega)) (by simp only [m_len]) ?_
        simp only [Option.toList, List.cons_append, List.nil_append]
        refine G.eqw (c_mem1 (σ := df (k_ms (κ) 1) ((r / 16 % 4)))) ?_
        refine G.eqS (v' := vI (dfv (k_ms (κ) 1) ((r / 16 % 4)))) rfl ?_
        have bb := dfv_rng (k_ms (κ) 1) ((r / 16 % 4))
        have hK := kinv_ms (i := 1) hK (inv_df hi ((r / 16 % 4)))
        refine g_pop (pc := 60) dX3_doStep_60 (fun z h => nomatch h) ?_
        refine g_goto (tgt := 138) (pc := 61) dX3_doStep_61 (by decide) ?_
        refine g_vret (pc := 138) rfl dX3_doStep_138 (fun h => h) ?_
        refine dt_v ?_
        have hh := b2_1.mp (show b2 (hasP (k_ms κ 1) (r / 16 % 4)) = 1 by omega)
        unfold sT
        rw [if_pos hh, if_pos (by omega)]
      · refine g_tsIn (tgt := 64) (pc := 23) dX3_doStep_23 (by omega) (by omega) (by omega) (by rw [ew23]; rfl) (by decide) ?_
        refine g_aload_n (i := 0) (pc := 64) dX3_doStep_64 rfl rfl ?_
        refine g_getf (pc := 65) f_X3_23 dX3_doStep_65 (c_0) rfl ?_
        refine g_iload_n (i := 2) (pc := 68) dX3_doStep_68 rfl rfl ?_
        have hi := hK.2.2.1 1
        refine G.eqw c_self1 ?_
        refine g_v1 (pc := 69) okV_X1_doExit rfl l_X3_203 dX3_doStep_69 (m_at0 c_ok1) hc_1 (by decide) (by decide) (Nat.le_of_ble_eq_true rfl) (t_X1_doExit c_ok1 hi (by omega)) (by simp only [m_len]) ?_
        simp only [Option.toList, List.cons_append, List.nil_append]
        refine G.eqw (c_mem1 (σ := de (k_ms (κ) 1) ((r / 16 % 4)))) ?_
        refine G.eqS (v' := vI (dev (k_ms (κ) 1) ((r / 16 % 4)))) rfl ?_
        have bb := dev_rng (k_ms (κ) 1) ((r / 16 % 4))
        have hK := kinv_ms (i := 1) hK (inv_de hi ((r / 16 % 4)))
        refine g_pop (pc := 72) dX3_doStep_72 (fun z h => nomatch h) ?_
        refine g_goto (tgt := 138) (pc := 73) dX3_doStep_73 (by decide) ?_
        refine g_vret (pc := 138) rfl dX3_doStep_138 (fun h => h) ?_
        refine dt_v ?_
        have hh := b2_1.mp (show b2 (hasP (k_ms κ 1) (r / 16 % 4)) = 1 by omega)
        unfold sT
        rw [if_pos hh, if_neg (by omega), if_pos (by omega)]
      · refine g_tsIn (tgt := 76) (pc := 23) dX3_doStep_23 (by omega) (by omega) (by omega) (by rw [ew23]; rfl) (by decide) ?_
        refine g_aload_n (i := 0) (pc := 76) dX3_doStep_76 rfl rfl ?_
        refine g_getf (pc := 77) f_X3_23 dX3_doStep_77 (c_0) rfl ?_
        refine g_iload_n (i := 2) (pc := 80) dX3_doStep_80 rfl rfl ?_
        refine g_iload_n (i := 1) (pc := 81) dX3_doStep_81 rfl rfl ?_
        refine g_bipush (pc := 82) dX3_doStep_82 (by decide) ?_
        refine g_idiv (pc := 84) dX3_doStep_84 (by omega) (by omega) ?_
        refine G.eqS (congrArg (fun z => vI z) (Int.tdiv_eq_ediv_of_nonneg (by omega))) ?_
        refine g_iconst (pc := 85) dX3_doStep_85 ?_
        refine g_irem (pc := 86) dX3_doStep_86 (by omega) (by omega) ?_
        refine G.eqS (congrArg (fun z => vI z) (Int.tmod_eq_emod_of_nonneg (by omega))) ?_
        have hi := hK.2.2.1 1
        refine G.eqw c_self1 ?_
        refine g_v2 (pc := 87) okV_X1_doMarry rfl l_X3_211 dX3_doStep_87 (m_at0 c_ok1) hc_1 (by decide) (by decide) (Nat.le_of_ble_eq_true rfl) (t_X1_doMarry c_ok1 hi (by omega) (by omega)) (by simp only [m_len]) ?_
        simp only [Option.toList, List.cons_append, List.nil_append]
        refine G.eqw (c_mem1 (σ := dm (k_ms (κ) 1) ((r / 16 % 4)) ((r / 64 % 4)))) ?_
        refine G.eqS (v' := vI (dmv (k_ms (κ) 1) ((r / 16 % 4)) ((r / 64 % 4)))) rfl ?_
        have bb := dmv_rng (k_ms (κ) 1) ((r / 16 % 4)) ((r / 64 % 4))
        have hK := kinv_ms (i := 1) hK (inv_dm hi ((r / 16 % 4)) ((r / 64 % 4)))
        refine g_pop (pc := 90) dX3_doStep_90 (fun z h => nomatch h) ?_
        refine g_goto (tgt := 138) (pc := 91) dX3_doStep_91 (by decide) ?_
        refine g_vret (pc := 138) rfl dX3_doStep_138 (fun h => h) ?_
        refine dt_v ?_
        have hh := b2_1.mp (show b2 (hasP (k_ms κ 1) (r / 16 % 4)) = 1 by omega)
        unfold sT
        rw [if_pos hh, if_neg (by omega), if_neg (by omega), if_pos (by omega)]
      · refine g_tsIn (tgt := 94) (pc := 23) dX3_doStep_23 (by omega) (by omega) (by omega) (by rw [ew23]; rfl) (by decide) ?_
        refine g_aload_n (i := 0) (pc := 94) dX3_doStep_94 rfl rfl ?_
        refine g_getf (pc := 95) f_X3_23 dX3_doStep_95 (c_0) rfl ?_
        refine g_iconst (pc := 98) dX3_doStep_98 ?_
        refine g_iload_n (i := 1) (pc := 99) dX3_doStep_99 rfl rfl ?_
        refine g_bipush (pc := 100) dX3_doStep_100 (by decide) ?_
        refine g_idiv (pc := 102) dX3_doStep_102 (by omega) (by omega) ?_
        refine G.eqS (congrArg (fun z => vI z) (Int.tdiv_eq_ediv_of_nonneg (by omega))) ?_
        refine g_bipush (pc := 103) dX3_doStep_103 (by decide) ?_
        refine g_irem (pc := 105) dX3_doStep_105 (by omega) (by omega) ?_
        refine G.eqS (congrArg (fun z => vI z) (Int.tmod_eq_emod_of_nonneg (by omega))) ?_
        refine g_iadd (pc := 106) dX3_doStep_106 ?_
        have hi := hK.2.2.1 1
        refine G.eqw c_self1 ?_
        refine g_v1 (pc := 107) okV_X1_doPress rfl l_X3_221 dX3_doStep_107 (m_at0 c_ok1) hc_1 (by decide) (by decide) (Nat.le_of_ble_eq_true rfl) (t_X1_doPress c_ok1 hi (by omega)) (by simp only [m_len]) ?_
        simp only [Option.toList, List.cons_append, List.nil_append]
        refine G.eqw (c_mem1 (σ := dp (k_ms (κ) 1) ((1 + (r / 64 % 8))))) ?_
        refine G.eqS (v' := vI (dpv (k_ms (κ) 1) ((1 + (r / 64 % 8))))) rfl ?_
        have bb := dpv_rng (k_ms (κ) 1) ((1 + (r / 64 % 8)))
        have hK := kinv_ms (i := 1) hK (inv_dp hi ((1 + (r / 64 % 8))))
        refine g_pop (pc := 110) dX3_doStep_110 (fun z h => nomatch h) ?_
        refine g_goto (tgt := 138) (pc := 111) dX3_doStep_111 (by decide) ?_
        refine g_vret (pc := 138) rfl dX3_doStep_138 (fun h => h) ?_
        refine dt_v ?_
        have hh := b2_1.mp (show b2 (hasP (k_ms κ 1) (r / 16 % 4)) = 1 by omega)
        unfold sT
        rw [if_pos hh, if_neg (by omega), if_neg (by omega), if_neg (by omega), if_pos (by omega)]
    · refine g_tsOut (tgt := 114) (pc := 23) dX3_doStep_23 (by omega) (by omega) (by decide) ?_
      refine g_aload_n (i := 0) (pc := 114) dX3_doStep_114 rfl rfl ?_
      refine g_getf (pc := 115) f_X3_23 dX3_doStep_115 (c_0) rfl ?_
      refine g_iload_n (i := 2) (pc := 118) dX3_doStep_118 rfl rfl ?_
      refine g_iload_n (i := 1) (pc := 119) dX3_doStep_119 rfl rfl ?_
      refine g_bipush (pc := 120) dX3_doStep_120 (by decide) ?_
      refine g_idiv (pc := 122) dX3_doStep_122 (by omega) (by omega) ?_
      refine G.eqS (congrArg (fun z => vI z) (Int.tdiv_eq_ediv_of_nonneg (by omega))) ?_
      refine g_bipush (pc := 123) dX3_doStep_123 (by decide) ?_
      refine g_irem (pc := 125) dX3_doStep_125 (by omega) (by omega) ?_
      refine G.eqS (congrArg (fun z => vI z) (Int.tmod_eq_emod_of_nonneg (by omega))) ?_
      refine g_iload_n (i := 1) (pc := 126) dX3_doStep_126 rfl rfl ?_
      refine g_sipush (pc := 127) dX3_doStep_127 (by decide) ?_
      refine g_idiv (pc := 130) dX3_doStep_130 (by omega) (by omega) ?_
      refine G.eqS (congrArg (fun z => vI z) (Int.tdiv_eq_ediv_of_nonneg (by omega))) ?_
      refine g_bipush (pc := 131) dX3_doStep_131 (by decide) ?_
      refine g_irem (pc := 133) dX3_doStep_133 (by omega) (by omega) ?_
      refine G.eqS (congrArg (fun z => vI z) (Int.tmod_eq_emod_of_nonneg (by omega))) ?_
      have hi := hK.2.2.1 1
      refine G.eqw c_self1 ?_
      refine g_v3 (pc := 134) okV_X1_doWrite rfl l_X3_181 dX3_doStep_134 (m_at0 c_ok1) hc_1 (by decide) (by decide) (Nat.le_of_ble_eq_true rfl) (t_X1_doWrite c_ok1 hi (by omega) (by omega) (by omega)) (by simp only [m_len]) ?_
      simp only [Option.toList, List.cons_append, List.nil_append]
      refine G.eqw (c_mem1 (σ := dw (k_ms (κ) 1) ((r / 16 % 4)) ((r / 64 % 16)) ((r / 1024 % 100)))) ?_
      refine G.eqS (v' := vI (dwv (k_ms (κ) 1) ((r / 16 % 4)) ((r / 64 % 16)) ((r / 1024 % 100)))) rfl ?_
      have bb := dwv_rng (k_ms (κ) 1) ((r / 16 % 4)) ((r / 64 % 16)) ((r / 1024 % 100))
      have hK := kinv_ms (i := 1) hK (inv_dw hi ((r / 16 % 4)) ((r / 64 % 16)) ((r / 1024 % 100)))
      refine g_pop (pc := 137) dX3_doStep_137 (fun z h => nomatch h) ?_
      refine g_vret (pc := 138) rfl dX3_doStep_138 (fun h => h) ?_
      refine dt_v ?_
      have hh := b2_1.mp (show b2 (hasP (k_ms κ 1) (r / 16 % 4)) = 1 by omega)
      unfold sT
      rw [if_pos hh, if_neg (by omega), if_neg (by omega), if_neg (by omega), if_neg (by omega)]
  · skip
    refine g_vret (pc := 18) rfl dX3_doStep_18 (fun h => h) ?_
    refine dt_v ?_
    unfold sT
    rw [if_neg (b2_0.mp (by omega)), k_same]
set_option maxRecDepth 20000 in
set_option maxHeartbeats 4000000 in
theorem t_X3_runScript {κ : KT} {δ : DT} {o : Nat → Int} (hK : KInv κ) {n s : Int} (h_n : -2147483648 ≤ n ∧ n < 2147483648) (h_s : -9223372036854775808 ≤ s ∧ s < 9223372036854775808) : GM M_X3_runScript false [vR 0, vI n, vL s] (cW κ δ o) 2 12 (dx (xR (xc_ru n s) (ruv (k_ms κ 0) n s) "java/lang/IllegalArgumentException" "java/lang/IllegalArgumentException" "java/lang/IllegalArgumentException") κ δ o) := by
  show G _ none _ _ 0 [some (vR 0), some (vI n), some (vL s), none, none, none, none] [] _ _ _ _
  refine g_iload_n (i := 1) (pc := 0) dX3_runScript_0 rfl rfl ?_
  refine g_iconst (pc := 1) dX3_runScript_1 ?_
  refine g_c_lt (tgt := 10) (pc := 2) dX3_runScript_2 (by omega) (by decide) (fun c2 => ?_) (fun c2 => ?_)
  · skip
    refine g_throw (pc := 10) (is := 239) (tx := "no such number of commands") e_41_45 (by decide) rfl dX3_runScript_10 dX3_runScript_13 dX3_runScript_14 dX3_runScript_16 dX3_runScript_19 (by decide) (Nat.le_of_ble_eq_true rfl) (by omega) ?_
    have h9 : xc_ru n s = 1 := by
      unfold xc_ru
      rw [if_pos (by omega)]
    unfold xR
    rw [if_neg (by omega), if_pos h9]
    exact dx_of (hK.2.2.1 1) rfl
  · skip
    refine g_iload_n (i := 1) (pc := 5) dX3_runScript_5 rfl rfl ?_
    refine g_iconst (pc := 6) dX3_runScript_6 ?_
    refine g_c_le (tgt := 20) (pc := 7) dX3_runScript_7 (by omega) (by decide) (fun c7 => ?_) (fun c7 => ?_)
    · skip
      refine g_lload_n (i := 2) (pc := 20) dX3_runScript_20 rfl rfl ?_
      refine g_lconst (z := 0) (pc := 21) dX3_runScript_21 rfl ?_
      refine g_lcmp (y := 0) (pc := 22) dX3_runScript_22 (by omega) (by decide) ?_
      have k22 := b_cmp_s s 0
      refine g_z_lt (tgt := 36) (pc := 23) dX3_runScript_23 (by omega) (by decide) (fun c23 => ?_) (fun c23 => ?_)
      · skip
        refine g_throw (pc := 36) (is := 245) (tx := "no such script") e_41_45 (by decide) rfl dX3_runScript_36 dX3_runScript_39 dX3_runScript_40 dX3_runScript_42 dX3_runScript_45 (by decide) (Nat.le_of_ble_eq_true rfl) (by omega) ?_
        have h9 : xc_ru n s = 1 := by
          unfold xc_ru
          rw [if_neg (by omega), if_pos (by omega)]
        unfold xR
        rw [if_neg (by omega), if_pos h9]
        exact dx_of (hK.2.2.1 1) rfl
      · skip
        refine g_lload_n (i := 2) (pc := 26) dX3_runScript_26 rfl rfl ?_
        refine g_iload_n (i := 1) (pc := 27) dX3_runScript_27 rfl rfl ?_
        refine g_callS (pc := 28) (as := [vL s, vI (n)]) (bc' := 0) (bs' := 0) okS_X3_withoutLastCommands rfl l_X3_241 dX3_runScript_28 rfl (Nat.le_of_ble_eq_true rfl) (by decide) (Nat.le_of_ble_eq_true rfl) ⟨Nat.zero_le _, Nat.zero_le _⟩ (t_X3_withoutLastCommands (s := s) (n := n) (by omega) (by omega)) (fun h => nomatch h) (fun r w' h => ?_) (fun E w' h => nomatch h.1)
        obtain ⟨hr9, rfl⟩ := h
        obtain rfl := Sum.inl.inj hr9
        simp only [Option.toList, List.cons_append, List.nil_append]
        have wb := wl_rng (s := s) (by omega) (n).toNat
        refine g_lconst (z := 0) (pc := 31) dX3_runScript_31 rfl ?_
        refine g_lcmp (y := 0) (pc := 32) dX3_runScript_32 (by omega) (by decide) ?_
        have k32 := b_cmp_s (wl s n.toNat) 0
        refine g_z_eq (tgt := 46) (pc := 33) dX3_runScript_33 (by omega) (by decide) (fun c33 => ?_) (fun c33 => ?_)
        · skip
          have h9 : xc_ru n s = 0 := by
            unfold xc_ru
            rw [if_neg (by omega), if_neg (by omega)]
          unfold xR
          rw [if_pos h9]
          refine g_aload_n (i := 0) (pc := 46) dX3_runScript_46 rfl rfl ?_
          refine g_getf (pc := 47) f_X3_23 dX3_runScript_47 (c_0) rfl ?_
          refine g_aload_n (i := 0) (pc := 50) dX3_runScript_50 rfl rfl ?_
          refine g_getf (pc := 51) f_X3_19 dX3_runScript_51 (c_0) rfl ?_
          refine G.eqw c_self1 ?_
          refine g_vr (pc := 54) okV_X1_copyFrom rfl l_X3_232 dX3_runScript_54 (m_at0 c_ok1) hc_1 (by decide) (by decide) (Nat.le_of_ble_eq_true rfl) (t_X1_copyFrom c_ok1 (hK.2.2.1 1) c_rd0 (hK.2.2.1 0) (by decide)) (by simp only [m_len]) ?_
          simp only [Option.toList, List.cons_append, List.nil_append]
          refine G.eqw c_mem1 ?_
          have hK0 := hK
          have hK := kinv_ms (i := 1) hK (hK.2.2.1 0)
          refine g_iconst (pc := 57) dX3_runScript_57 ?_
          refine g_istore (pc := 58) dX3_runScript_58 (by decide) rfl ?_
          simp only [List.set_cons_succ, List.set_cons_zero]
          have hI := hK0.2.2.1 0
          refine lp_up (P := fun k => (∀ j : Nat, j < k → ¬ (!(cV (itr (k_ms κ 0) n s j) (cmd n s j))) = true) → G M_X3_runScript none false false 60 [some (vR 0), some (vI n), some (vL s), none, some (vI k), none, none] [] (cW (k_setms κ 1 (itr (k_ms κ 0) n s k)) δ o) 2 12 (dx (.inl (some (vI (ruv (k_ms κ 0) n s)))) κ δ o)) n.toNat ?_ ?_ 0 (Nat.zero_le _) (fun i h => absurd h (Nat.not_lt_zero i))
          · intro hH
            show G _ _ _ _ _ _ _ _ _ _ _
            refine g_iload (pc := 60) dX3_runScript_60 rfl ?_
            refine g_iload_n (i := 1) (pc := 62) dX3_runScript_62 rfl rfl ?_
            refine g_c_ge (tgt := 101) (pc := 63) dX3_runScript_63 (by omega) (by decide) (fun c63 => ?_) (fun c63 => absurd c63 (by omega))
            refine g_iconst (pc := 101) dX3_runScript_101 ?_
            refine g_iret (pc := 102) rfl dX3_runScript_102 (fun h => h) ?_
            exact dx_i (ff_none hH).symm (inv_itr hI n s n.toNat) rfl
          · intro k hk ih hH
            have hK := kinv_ms (i := 1) hK0 (inv_itr hI n s k)
            show G _ _ _ _ _ _ _ _ _ _ _
            refine g_iload (pc := 60) dX3_runScript_60 rfl ?_
            refine g_iload_n (i := 1) (pc := 62) dX3_runScript_62 rfl rfl ?_
            refine g_c_ge (tgt := 101) (pc := 63) dX3_runScript_63 (by omega) (by decide) (fun c63 => absurd c63 (by omega)) (fun c63 => ?_)
            refine g_lload_n (i := 2) (pc := 66) dX3_runScript_66 rfl rfl ?_
            refine g_iload_n (i := 1) (pc := 67) dX3_runScript_67 rfl rfl ?_
            refine g_iconst (pc := 68) dX3_runScript_68 ?_
            refine g_isub (pc := 69) dX3_runScript_69 ?_
            refine g_iload (pc := 70) dX3_runScript_70 rfl ?_
            refine g_isub (pc := 72) dX3_runScript_72 ?_
            refine g_callS (pc := 73) (as := [vL s, vI (((n - 1) - (k : Int)))]) (bc' := 0) (bs' := 0) okS_X3_withoutLastCommands rfl l_X3_241 dX3_runScript_73 rfl (Nat.le_of_ble_eq_true rfl) (by decide) (Nat.le_of_ble_eq_true rfl) ⟨Nat.zero_le _, Nat.zero_le _⟩ (t_X3_withoutLastCommands (s := s) (n := ((n - 1) - (k : Int))) (by omega) (by omega)) (fun h => nomatch h) (fun r w' h => ?_) (fun E w' h => nomatch h.1)
            obtain ⟨hr9, rfl⟩ := h
            obtain rfl := Sum.inl.inj hr9
            simp only [Option.toList, List.cons_append, List.nil_append]
            have wb := wl_rng (s := s) (by omega) (((n - 1) - (k : Int))).toNat
            refine g_lstore (pc := 76) dX3_runScript_76 (by decide) rfl ?_
            simp only [List.set_cons_succ, List.set_cons_zero]
            refine g_aload_n (i := 0) (pc := 78) dX3_runScript_78 rfl rfl ?_
            refine g_lload (pc := 79) dX3_runScript_79 rfl ?_
            refine g_ldc2 (n := 100000) (pc := 81) co_X3_247 dX3_runScript_81 rfl ?_
            refine g_lrem (pc := 84) dX3_runScript_84 (by omega) (by decide) ?_
            refine G.eqS (congrArg (fun z => vL z) (show _ = cmd n s k from Int.tmod_eq_emod_of_nonneg (by omega))) ?_
            refine g_l2i (pc := 85) dX3_runScript_85 ?_
            refine g_v1 (pc := 86) okV_X3_doCommandOfScript rfl l_X3_249 dX3_runScript_86 (c_0) hc_3 (by decide) (by decide) (Nat.le_of_ble_eq_true rfl) (t_X3_doCommandOfScript hK (d := cmd n s k) (by unfold cmd; omega)) (by rw [c_len, c_len]) ?_
            simp only [Option.toList, List.cons_append, List.nil_append]
            refine G.eqw (show _ = cW (k_setms κ 1 (itr (k_ms κ 0) n s (k + 1))) δ o from congrArg (fun z => cW z δ o) (by rw [ms_ms, ms_at]; rfl)) ?_
            refine G.eqS (congrArg (fun z => vI z) (show _ = b2 (cV (itr (k_ms κ 0) n s k) (cmd n s k)) by rw [ms_at])) ?_
            have bb := b2_rng (cV (itr (k_ms κ 0) n s k) (cmd n s k))
            refine g_z_ne (tgt := 95) (pc := 89) dX3_runScript_89 (by omega) (by decide) (fun c89 => ?_) (fun c89 => ?_)
            · skip
              refine g_iinc (pc := 95) dX3_runScript_95 rfl (by decide) rfl ?_
              simp only [List.set_cons_succ, List.set_cons_zero]
              refine g_goto (tgt := 60) (pc := 98) dX3_runScript_98 (by decide) ?_
              refine G.drop 5 ?_
              simp only [List.set_cons_succ, List.set_cons_zero]
              refine ih (fun j hj => ?_)
              rcases Nat.lt_or_ge j k with q | q
              · exact hH j q
              · rw [show j = k by omega, b2_1.mp (show b2 (cV (itr (k_ms κ 0) n s k) (cmd n s k)) = 1 by omega)]
                decide
            · skip
              refine g_iload (pc := 92) dX3_runScript_92 rfl ?_
              refine g_iret (pc := 94) rfl dX3_runScript_94 (fun h => h) ?_
              refine dx_i ?_ (inv_itr hI n s (k + 1)) rfl
              exact (ff_some (by rw [Bool.not_eq_true', Bool.eq_false_iff]; exact b2_0.mp (by omega)) hH hk).symm
        · skip
          refine g_throw (pc := 36) (is := 245) (tx := "no such script") e_41_45 (by decide) rfl dX3_runScript_36 dX3_runScript_39 dX3_runScript_40 dX3_runScript_42 dX3_runScript_45 (by decide) (Nat.le_of_ble_eq_true rfl) (by omega) ?_
          have h9 : xc_ru n s = 1 := by
            unfold xc_ru
            rw [if_neg (by omega), if_pos (by omega)]
          unfold xR
          rw [if_neg (by omega), if_pos h9]
          exact dx_of (hK.2.2.1 1) rfl
    · skip
      refine g_throw (pc := 10) (is := 239) (tx := "no such number of commands") e_41_45 (by decide) rfl dX3_runScript_10 dX3_runScript_13 dX3_runScript_14 dX3_runScript_16 dX3_runScript_19 (by decide) (Nat.le_of_ble_eq_true rfl) (by omega) ?_
      have h9 : xc_ru n s = 1 := by
        unfold xc_ru
        rw [if_pos (by omega)]
      unfold xR
      rw [if_neg (by omega), if_pos h9]
      exact dx_of (hK.2.2.1 1) rfl
set_option maxRecDepth 20000 in
set_option maxHeartbeats 4000000 in
theorem t_X3_simulate {κ : KT} {δ : DT} {o : Nat → Int} (hK : KInv κ) {x m : Int} (h_x : -9223372036854775808 ≤ x ∧ x < 9223372036854775808) (h_m : -2147483648 ≤ m ∧ m < 2147483648) : GM M_X3_simulate false [vR 0, vL x, vI m] (cW κ δ o) 2 12 (dx (xR (xc_si m) (siv (k_ms κ 0) x m) "java/lang/IllegalArgumentException" "java/lang/IllegalArgumentException" "java/lang/IllegalArgumentException") κ δ o) := by
  show G _ none _ _ 0 [some (vR 0), some (vL x), none, some (vI m), none, none, none, none] [] _ _ _ _
  refine g_iload_n (i := 3) (pc := 0) dX3_simulate_0 rfl rfl ?_
  refine g_iconst (pc := 1) dX3_simulate_1 ?_
  refine g_c_lt (tgt := 11) (pc := 2) dX3_simulate_2 (by omega) (by decide) (fun c2 => ?_) (fun c2 => ?_)
  · skip
    refine g_throw (pc := 11) (is := 252) (tx := "no such number of steps") e_41_45 (by decide) rfl dX3_simulate_11 dX3_simulate_14 dX3_simulate_15 dX3_simulate_17 dX3_simulate_20 (by decide) (Nat.le_of_ble_eq_true rfl) (by omega) ?_
    have h9 : xc_si m = 1 := by
      unfold xc_si
      rw [if_pos (by omega)]
    unfold xR
    rw [if_neg (by omega), if_pos h9]
    exact dx_of (hK.2.2.1 1) rfl
  · skip
    refine g_iload_n (i := 3) (pc := 5) dX3_simulate_5 rfl rfl ?_
    refine g_bipush (pc := 6) dX3_simulate_6 (by decide) ?_
    refine g_c_le (tgt := 21) (pc := 8) dX3_simulate_8 (by omega) (by decide) (fun c8 => ?_) (fun c8 => ?_)
    · skip
      have h9 : xc_si m = 0 := by
        unfold xc_si
        rw [if_neg (by omega)]
      unfold xR
      rw [if_pos h9]
      refine g_aload_n (i := 0) (pc := 21) dX3_simulate_21 rfl rfl ?_
      refine g_getf (pc := 22) f_X3_23 dX3_simulate_22 (c_0) rfl ?_
      refine g_aload_n (i := 0) (pc := 25) dX3_simulate_25 rfl rfl ?_
      refine g_getf (pc := 26) f_X3_19 dX3_simulate_26 (c_0) rfl ?_
      refine G.eqw c_self1 ?_
      refine g_vr (pc := 29) okV_X1_copyFrom rfl l_X3_232 dX3_simulate_29 (m_at0 c_ok1) hc_1 (by decide) (by decide) (Nat.le_of_ble_eq_true rfl) (t_X1_copyFrom c_ok1 (hK.2.2.1 1) c_rd0 (hK.2.2.1 0) (by decide)) (by simp only [m_len]) ?_
      simp only [Option.toList, List.cons_append, List.nil_append]
      refine G.eqw c_mem1 ?_
      have hK0 := hK
      have hK := kinv_ms (i := 1) hK (hK.2.2.1 0)
      refine g_lload_n (i := 1) (pc := 32) dX3_simulate_32 rfl rfl ?_
      refine g_lstore (pc := 33) dX3_simulate_33 (by decide) rfl ?_
      simp only [List.set_cons_succ, List.set_cons_zero]
      refine g_iconst (pc := 35) dX3_simulate_35 ?_
      refine g_istore (pc := 36) dX3_simulate_36 (by decide) rfl ?_
      simp only [List.set_cons_succ, List.set_cons_zero]
      have hI := hK0.2.2.1 0
      refine lp_up (P := fun k => G M_X3_simulate none false false 38 [some (vR 0), some (vL x), none, some (vI m), some (vL (sx x k)), none, some (vI k), none] [] (cW (k_setms κ 1 (its (k_ms κ 0) x k)) δ o) 2 12 (dx (.inl (some (vI (siv (k_ms κ 0) x m)))) κ δ o)) m.toNat ?_ ?_ 0 (Nat.zero_le _)
      · show G _ _ _ _ _ _ _ _ _ _ _
        refine g_iload (pc := 38) dX3_simulate_38 rfl ?_
        refine g_iload_n (i := 3) (pc := 40) dX3_simulate_40 rfl rfl ?_
        refine g_c_ge (tgt := 72) (pc := 41) dX3_simulate_41 (by omega) (by decide) (fun c41 => ?_) (fun c41 => absurd c41 (by omega))
        refine g_sipush (pc := 72) dX3_simulate_72 (by decide) ?_
        refine g_aload_n (i := 0) (pc := 75) dX3_simulate_75 rfl rfl ?_
        refine g_getf (pc := 76) f_X3_23 dX3_simulate_76 (c_0) rfl ?_
        refine g_getf (pc := 79) f_X3_104 dX3_simulate_79 (c_rd1.1) rfl ?_
        refine g_aload_n (i := 0) (pc := 82) dX3_simulate_82 rfl rfl ?_
        refine g_getf (pc := 83) f_X3_19 dX3_simulate_83 (c_0) rfl ?_
        refine g_getf (pc := 86) f_X3_104 dX3_simulate_86 (c_rd0.1) rfl ?_
        refine g_isub (pc := 89) dX3_simulate_89 ?_
        refine g_wr ?_
        refine G.eqS (v' := vI (wr (s_co (its (k_ms κ 0) x m.toNat) - s_co (k_ms κ 0)))) rfl ?_
        refine g_min (pc := 90) l_X3_261 w_mm1 w_mm2 w_mm3 dX3_simulate_90 ⟨by decide, wr_rng _⟩ (by decide) (Nat.le_of_ble_eq_true rfl) ?_
        refine G.eqS (v' := vI (mn9 (wr (s_co (its (k_ms κ 0) x m.toNat) - s_co (k_ms κ 0))))) rfl ?_
        refine g_istore (pc := 93) dX3_simulate_93 (by decide) rfl ?_
        simp only [List.set_cons_succ, List.set_cons_zero]
        refine g_sipush (pc := 95) dX3_simulate_95 (by decide) ?_
        refine g_aload_n (i := 0) (pc := 98) dX3_simulate_98 rfl rfl ?_
        refine g_getf (pc := 99) f_X3_23 dX3_simulate_99 (c_0) rfl ?_
        refine g_getf (pc := 102) f_X3_111 dX3_simulate_102 (c_rd1.1) rfl ?_
        refine g_aload_n (i := 0) (pc := 105) dX3_simulate_105 rfl rfl ?_
        refine g_getf (pc := 106) f_X3_19 dX3_simulate_106 (c_0) rfl ?_
        refine g_getf (pc := 109) f_X3_111 dX3_simulate_109 (c_rd0.1) rfl ?_
        refine g_isub (pc := 112) dX3_simulate_112 ?_
        refine g_wr ?_
        refine G.eqS (v' := vI (wr (s_te (its (k_ms κ 0) x m.toNat) - s_te (k_ms κ 0)))) rfl ?_
        refine g_min (pc := 113) l_X3_261 w_mm1 w_mm2 w_mm3 dX3_simulate_113 ⟨by decide, wr_rng _⟩ (by decide) (Nat.le_of_ble_eq_true rfl) ?_
        refine G.eqS (v' := vI (mn9 (wr (s_te (its (k_ms κ 0) x m.toNat) - s_te (k_ms κ 0))))) rfl ?_
        refine g_istore (pc := 116) dX3_simulate_116 (by decide) rfl ?_
        simp only [List.set_cons_succ, List.set_cons_zero]
        refine g_sipush (pc := 118) dX3_simulate_118 (by decide) ?_
        refine g_iload (pc := 121) dX3_simulate_121 rfl ?_
        refine g_imul (pc := 123) dX3_simulate_123 ?_
        refine g_iload (pc := 124) dX3_simulate_124 rfl ?_
        refine g_iadd (pc := 126) dX3_simulate_126 ?_
        refine g_iret (pc := 127) rfl dX3_simulate_127 (fun h => h) ?_
        exact dx_i rfl (inv_its hI x m.toNat) rfl
      · intro k hk ih
        have hK := kinv_ms (i := 1) hK0 (inv_its hI x k)
        show G _ _ _ _ _ _ _ _ _ _ _
        refine g_iload (pc := 38) dX3_simulate_38 rfl ?_
        refine g_iload_n (i := 3) (pc := 40) dX3_simulate_40 rfl rfl ?_
        refine g_c_ge (tgt := 72) (pc := 41) dX3_simulate_41 (by omega) (by decide) (fun c41 => absurd c41 (by omega)) (fun c41 => ?_)
        refine g_lload (pc := 44) dX3_simulate_44 rfl ?_
        refine g_ldc2 (n := 6364136223846793005) (pc := 46) co_X3_254 dX3_simulate_46 rfl ?_
        refine g_lmul (pc := 49) dX3_simulate_49 ?_
        refine g_ldc2 (n := 1442695040888963407) (pc := 50) co_X3_256 dX3_simulate_50 rfl ?_
        refine g_ladd (pc := 53) dX3_simulate_53 ?_
        refine g_lstore (pc := 54) dX3_simulate_54 (by decide) rfl ?_
        simp only [List.set_cons_succ, List.set_cons_zero]
        refine g_aload_n (i := 0) (pc := 56) dX3_simulate_56 rfl rfl ?_
        refine g_lload (pc := 57) dX3_simulate_57 rfl ?_
        refine g_bipush (pc := 59) dX3_simulate_59 (by decide) ?_
        refine g_lushr (pc := 61) dX3_simulate_61 ?_
        refine g_l2i (pc := 62) dX3_simulate_62 ?_
        refine G.eqS (v' := vI (b_ushrL (sx x (k + 1)) 33)) rfl ?_
        refine g_v1 (pc := 63) okV_X3_doStep rfl l_X3_258 dX3_simulate_63 (c_0) hc_3 (by decide) (by decide) (Nat.le_of_ble_eq_true rfl) (t_X3_doStep hK (r := b_ushrL (sx x (k + 1)) 33) (shr_rng _)) (by rw [c_len, c_len]) ?_
        simp only [Option.toList, List.cons_append, List.nil_append]
        refine G.eqw (show _ = cW (k_setms κ 1 (its (k_ms κ 0) x (k + 1))) δ o from congrArg (fun z => cW z δ o) (by rw [ms_ms, ms_at]; rfl)) ?_
        refine g_iinc (pc := 66) dX3_simulate_66 rfl (by decide) rfl ?_
        simp only [List.set_cons_succ, List.set_cons_zero]
        refine g_goto (tgt := 38) (pc := 69) dX3_simulate_69 (by decide) ?_
        exact ih
    · skip
      refine g_throw (pc := 11) (is := 252) (tx := "no such number of steps") e_41_45 (by decide) rfl dX3_simulate_11 dX3_simulate_14 dX3_simulate_15 dX3_simulate_17 dX3_simulate_20 (by decide) (Nat.le_of_ble_eq_true rfl) (by omega) ?_
      have h9 : xc_si m = 1 := by
        unfold xc_si
        rw [if_pos (by omega)]
      unfold xR
      rw [if_neg (by omega), if_pos h9]
      exact dx_of (hK.2.2.1 1) rfl
end FC
