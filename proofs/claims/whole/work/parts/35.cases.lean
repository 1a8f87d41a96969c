/-! THE LAW'S CASES (printed by wip/whole/law.py, but for the first rows) -/
section ML9
def LB (n : Nat) (f : Nat → Int) (i : Int) (bc bs : Nat) (Q : (Option MV) ⊕ String → List MC → Prop) : Prop := ∀ (κ : KT) (ν : NT) (o : Nat → Int), KInv κ → Rel κ ν → G M_L_law (some (n, f)) false false 1561 [some (vR SCR), some (vR 0), some (vR 79), some (vR 87), some (vI i), none, none] [] (cW κ (dE ν) o) bc bs Q
theorem xn_app_e {κ : KT} {ν : NT} {x : Int} (h : Rel κ ν) : xn_app ν x = xc_app κ x := by unfold xn_app xc_app; rw [h.2.2.2.2.2.2]
theorem xn_un_e {κ : KT} {ν : NT} (h : Rel κ ν) : xn_un ν = xc_un κ := by unfold xn_un xc_un; rw [h.2.1]
theorem xn_rs_e {κ : KT} {ν : NT} {x : Int} (h : Rel κ ν) : xn_rs ν x = xc_rs κ x := by unfold xn_rs xc_rs; rw [h.2.2.2.1.1]
theorem xn_ld_e {κ : KT} {ν : NT} (h : Rel κ ν) : xn_ld ν = xc_ld κ := by unfold xn_ld xc_ld; rw [h.2.2.2.2.2.1, h.2.2.2.2.2.2]
theorem cmv_rng (σ : SG) : -1 ≤ cmv σ ∧ cmv σ ≤ 16 := by
  have h := ff_rng (fun k => decide (nxt (itm σ k) = -1)) 16
  unfold cmv
  split <;> omega
set_option maxRecDepth 20000 in
set_option maxHeartbeats 400000 in
theorem lc_0 {n : Nat} {f : Nat → Int} {i : Int} {κ : KT} {ν : NT} {o : Nat → Int} {bc bs : Nat} {Q : (Option MV) ⊕ String → List MC → Prop} (hf : ∀ j, -2147483648 ≤ f j ∧ f j < 2147483648) (h_i : 0 ≤ i ∧ i + 3 < n ∧ n < 2147483648) (hK : KInv κ) (hR : Rel κ ν) (hB : LB n f i bc bs Q) : G M_L_law (some (n, f)) false false 152 [some (vR SCR), some (vR 0), some (vR 79), some (vR 87), some (vI i), none, none] [] (cW κ (dE ν) o) (bc + 2) (bs + 12) Q := by
  have hN := ninv_of hK hR
  have e0 : n_st ν = k_ms κ 0 := hR.1
  refine g_aload_n (i := 1) (pc := 152) dL_law_152 rfl rfl ?_
  refine g_aload_n (i := 0) (pc := 153) dL_law_153 rfl rfl ?_
  refine g_iload (pc := 154) dL_law_154 rfl ?_
  refine g_iconst (pc := 156) dL_law_156 ?_
  refine g_iadd (pc := 157) dL_law_157 ?_
  refine g_sld (pc := 158) rfl dL_law_158 (by omega) ?_
  refine g_aload_n (i := 3) (pc := 159) dL_law_159 rfl rfl ?_
  refine g_callSX (pc := 160) (as := [vR 0, vI (f (i + 1).toNat), vR 87]) (bc' := 2) (bs' := 12) okS_L_append (by decide) l_L_85 dL_law_160 rfl (Nat.le_of_ble_eq_true rfl) (by decide) (Nat.le_of_ble_eq_true rfl) ⟨by omega, by omega⟩ (t_L_append (κ := κ) (δ := dE ν) (o := o) hK (hf _)) (fun h => nomatch h) (fun r w' h => ?_) (fun E w' h => nomatch h.1)
  obtain ⟨h1, h2⟩ := h
  obtain rfl := Sum.inl.inj h1
  subst h2
  simp only [Option.toList, List.cons_append, List.nil_append]
  refine G.bud (bc := bc) (bs := bs) ?_ (by omega) (by omega)
  have hr9 : 0 ≤ xc_app κ (f (i + 1).toNat) ∧ xc_app κ (f (i + 1).toNat) ≤ 2 := by unfold xc_app; (repeat' split) <;> omega
  refine g_istore (pc := 163) dL_law_163 (by decide) rfl ?_
  simp only [List.set_cons_succ, List.set_cons_zero]
  by_cases hc : xc_app κ (f (i + 1).toNat) = 0
  · refine G.eqw (w' := cW (xk_app κ (f (i + 1).toNat)) (dE ν) (va_up o 0 (wr (k_ln κ + 1)))) (by rw [if_pos hc, if_pos hc]) ?_
    have hq : (0 ≤ (f (i + 1).toNat) ∧ (f (i + 1).toNat) < 256) ∧ k_ln κ < 100 := by
      unfold xc_app at hc
      (repeat' split at hc) <;> omega
    have hL := hK.2.1
    refine g_aload_n (i := 2) (pc := 165) dL_law_165 rfl rfl ?_
    refine g_aload_n (i := 0) (pc := 166) dL_law_166 rfl rfl ?_
    refine g_iload (pc := 167) dL_law_167 rfl ?_
    refine g_iconst (pc := 169) dL_law_169 ?_
    refine g_iadd (pc := 170) dL_law_170 ?_
    refine g_sld (pc := 171) rfl dL_law_171 (by omega) ?_
    refine g_v1 (pc := 172) okV_X4_append rfl l_L_90 dL_law_172 c_79 hc_4 (by decide) (by decide) (Nat.le_of_ble_eq_true rfl) (nr_0 (v' := k_ln κ + 1) (t_X4_append (κ := (xk_app κ (f (i + 1).toNat))) (ν := ν) (o := (va_up o 0 (wr (k_ln κ + 1)))) (al := false) hN (hf _)) (by rw [xn_app_e hR]; exact hc) (by rw [hR.2.2.2.2.2.2])) (by simp only [c_len]) ?_
    simp only [Option.toList, List.cons_append, List.nil_append]
    refine g_istore (pc := 175) dL_law_175 (by decide) rfl ?_
    simp only [List.set_cons_succ, List.set_cons_zero]
    refine g_aload_n (i := 2) (pc := 177) dL_law_177 rfl rfl ?_
    refine g_v0 (pc := 178) okV_X4_thrown rfl l_L_91 dL_law_178 c_79 hc_4 (by decide) (by decide) (Nat.le_of_ble_eq_true rfl) (t_X4_thrown (ν := n_setth (n_settl (n_settx ν (va_up (n_tx ν) (n_tl ν).toNat ((f (i + 1).toNat)))) (n_tl ν + 1)) 0)) rfl ?_
    simp only [Option.toList, List.cons_append, List.nil_append]
    refine G.eqS (v' := vI (0)) rfl ?_
    refine g_iload (pc := 181) dL_law_181 rfl ?_
    refine g_c_eq (tgt := 188) (pc := 183) dL_law_183 (by omega) (by decide) (fun _ => ?_) (fun c9 => absurd hc.symm c9)
    refine g_iload (pc := 188) dL_law_188 rfl ?_
    refine g_z_ne (tgt := 205) (pc := 190) dL_law_190 (by omega) (by decide) (fun c9 => absurd hc c9) (fun _ => ?_)
    refine g_aload_n (i := 3) (pc := 193) dL_law_193 rfl rfl ?_
    refine g_iconst (pc := 194) dL_law_194 ?_
    refine g_lald (pc := 195) dL_law_195 c_87 (by decide) ?_
    refine G.eqS (v' := vL (wr (k_ln κ + 1))) (congrArg (fun z => vL z) (up_s _ _ _)) ?_
    refine g_iload (pc := 196) dL_law_196 rfl ?_
    refine g_wr ?_
    have hw9 := wr_rng (k_ln κ + 1)
    refine g_i2l (pc := 198) dL_law_198 hw9 ?_
    refine g_lcmp (pc := 199) dL_law_199 (by omega) (by omega) ?_
    refine g_z_eq (tgt := 205) (pc := 200) dL_law_200 (by rw [bcmp_0]; decide) (by decide) (fun _ => ?_) (fun c9 => absurd (bcmp_0 _) c9)
    refine g_goto (tgt := 1561) (pc := 205) dL_law_205 (by decide) ?_
    refine G.drop 6 (G.drop 5 ?_)
    simp only [List.set_cons_succ, List.set_cons_zero]
    exact hB _ _ _ (kinv_ln (kinv_sg hK hq.1) (by show 0 ≤ k_ln κ + 1 ∧ k_ln κ + 1 ≤ 100; omega)) (rel_th (rel_app hR))
  · refine G.eqw (w' := cW κ (dE ν) o) (by rw [if_neg hc, if_neg hc]) ?_
    refine g_aload_n (i := 2) (pc := 165) dL_law_165 rfl rfl ?_
    refine g_aload_n (i := 0) (pc := 166) dL_law_166 rfl rfl ?_
    refine g_iload (pc := 167) dL_law_167 rfl ?_
    refine g_iconst (pc := 169) dL_law_169 ?_
    refine g_iadd (pc := 170) dL_law_170 ?_
    refine g_sld (pc := 171) rfl dL_law_171 (by omega) ?_
    refine g_v1 (pc := 172) okV_X4_append rfl l_L_90 dL_law_172 c_79 hc_4 (by decide) (by decide) (Nat.le_of_ble_eq_true rfl) (nr_1 (k := xc_app κ (f (i + 1).toNat)) (t_X4_append (κ := κ) (ν := ν) (o := o) (al := false) hN (hf _)) (xn_app_e hR) hc) (by simp only [c_len]) ?_
    simp only [Option.toList, List.cons_append, List.nil_append]
    refine g_istore (pc := 175) dL_law_175 (by decide) rfl ?_
    simp only [List.set_cons_succ, List.set_cons_zero]
    refine g_aload_n (i := 2) (pc := 177) dL_law_177 rfl rfl ?_
    refine g_v0 (pc := 178) okV_X4_thrown rfl l_L_91 dL_law_178 c_79 hc_4 (by decide) (by decide) (Nat.le_of_ble_eq_true rfl) (t_X4_thrown (ν := n_setth ν (xc_app κ (f (i + 1).toNat)))) rfl ?_
    simp only [Option.toList, List.cons_append, List.nil_append]
    refine G.eqS (v' := vI (xc_app κ (f (i + 1).toNat))) rfl ?_
    refine g_iload (pc := 181) dL_law_181 rfl ?_
    refine g_c_eq (tgt := 188) (pc := 183) dL_law_183 (by omega) (by decide) (fun _ => ?_) (fun c9 => absurd rfl c9)
    refine g_iload (pc := 188) dL_law_188 rfl ?_
    refine g_z_ne (tgt := 205) (pc := 190) dL_law_190 (by omega) (by decide) (fun _ => ?_) (fun c9 => absurd c9 hc)
    refine g_goto (tgt := 1561) (pc := 205) dL_law_205 (by decide) ?_
    refine G.drop 6 (G.drop 5 ?_)
    simp only [List.set_cons_succ, List.set_cons_zero]
    exact hB _ _ _ (hK) (rel_th (hR))
set_option maxRecDepth 20000 in
set_option maxHeartbeats 400000 in
theorem lc_1 {n : Nat} {f : Nat → Int} {i : Int} {κ : KT} {ν : NT} {o : Nat → Int} {bc bs : Nat} {Q : (Option MV) ⊕ String → List MC → Prop} (hf : ∀ j, -2147483648 ≤ f j ∧ f j < 2147483648) (h_i : 0 ≤ i ∧ i + 3 < n ∧ n < 2147483648) (hK : KInv κ) (hR : Rel κ ν) (hB : LB n f i bc bs Q) : G M_L_law (some (n, f)) false false 208 [some (vR SCR), some (vR 0), some (vR 79), some (vR 87), some (vI i), none, none] [] (cW κ (dE ν) o) (bc + 2) (bs + 12) Q := by
  have hN := ninv_of hK hR
  have e0 : n_st ν = k_ms κ 0 := hR.1
  refine g_aload_n (i := 1) (pc := 208) dL_law_208 rfl rfl ?_
  refine g_v0 (pc := 209) okV_X3_clearText rfl l_L_94 dL_law_209 c_0 hc_3 (by decide) (by decide) (Nat.le_of_ble_eq_true rfl) (t_X3_clearText (δ := dE ν) (o := o) hK) (by simp only [c_len]) ?_
  simp only [Option.toList, List.cons_append, List.nil_append]
  refine G.bud (bc := bc) (bs := bs) ?_ (by omega) (by omega)
  have hr9 := hK.2.1
  refine g_aload_n (i := 2) (pc := 212) dL_law_212 rfl rfl ?_
  refine g_v0 (pc := 213) okV_X4_clearText rfl l_L_97 dL_law_213 c_79 hc_4 (by decide) (by decide) (Nat.le_of_ble_eq_true rfl) (t_X4_clearText (κ := (k_setln κ 0)) (ν := ν) (o := o) (al := false)) (by simp only [c_len]) ?_
  simp only [Option.toList, List.cons_append, List.nil_append]
  refine G.eqS (v' := vI (k_ln κ)) (congrArg (fun z => vI z) hR.2.2.2.2.2.2) ?_
  refine g_c_eq (tgt := 1561) (pc := 216) dL_law_216 (by omega) (by decide) (fun _ => ?_) (fun c9 => absurd rfl c9)
  exact hB _ _ _ (kinv_ln hK (by decide)) (rel_th (rel_cl hR))
set_option maxRecDepth 20000 in
set_option maxHeartbeats 400000 in
theorem lc_2 {n : Nat} {f : Nat → Int} {i : Int} {κ : KT} {ν : NT} {o : Nat → Int} {bc bs : Nat} {Q : (Option MV) ⊕ String → List MC → Prop} (hf : ∀ j, -2147483648 ≤ f j ∧ f j < 2147483648) (h_i : 0 ≤ i ∧ i + 3 < n ∧ n < 2147483648) (hK : KInv κ) (hR : Rel κ ν) (hB : LB n f i bc bs Q) : G M_L_law (some (n, f)) false false 221 [some (vR SCR), some (vR 0), some (vR 79), some (vR 87), some (vI i), none, none] [] (cW κ (dE ν) o) (bc + 2) (bs + 12) Q := by
  have hN := ninv_of hK hR
  have e0 : n_st ν = k_ms κ 0 := hR.1
  refine g_aload_n (i := 1) (pc := 221) dL_law_221 rfl rfl ?_
  refine g_v0 (pc := 222) okV_X3_errorPosition rfl l_L_98 dL_law_222 c_0 hc_3 (by decide) (by decide) (Nat.le_of_ble_eq_true rfl) (t_X3_errorPosition (δ := dE ν) (o := o) hK) (by simp only [c_len]) ?_
  simp only [Option.toList, List.cons_append, List.nil_append]
  refine G.bud (bc := bc) (bs := bs) ?_ (by omega) (by omega)
  have hr9 := fe_rng (f := k_sg κ) (n := k_ln κ) hK.2.1.1
  have hL9 := hK.2.1
  refine g_aload_n (i := 2) (pc := 225) dL_law_225 rfl rfl ?_
  refine g_v0 (pc := 226) okV_X4_errorPosition rfl l_L_101 dL_law_226 c_79 hc_4 (by decide) (by decide) (Nat.le_of_ble_eq_true rfl) (t_X4_errorPosition (κ := (κ)) (ν := ν) (o := o) (al := false) hN.2.2.2.2.2.2 hN.2.2.2.2.2.1) (by simp only [c_len]) ?_
  simp only [Option.toList, List.cons_append, List.nil_append]
  refine G.eqS (v' := vI (fe (k_sg κ) (k_ln κ))) (congrArg (fun z => vI z) (by rw [hR.2.2.2.2.2.1, hR.2.2.2.2.2.2])) ?_
  refine g_c_eq (tgt := 1561) (pc := 229) dL_law_229 (by omega) (by decide) (fun _ => ?_) (fun c9 => absurd rfl c9)
  exact hB _ _ _ (hK) (rel_th hR)
set_option maxRecDepth 20000 in
set_option maxHeartbeats 400000 in
theorem lc_3 {n : Nat} {f : Nat → Int} {i : Int} {κ : KT} {ν : NT} {o : Nat → Int} {bc bs : Nat} {Q : (Option MV) ⊕ String → List MC → Prop} (hf : ∀ j, -2147483648 ≤ f j ∧ f j < 2147483648) (h_i : 0 ≤ i ∧ i + 3 < n ∧ n < 2147483648) (hK : KInv κ) (hR : Rel κ ν) (hB : LB n f i bc bs Q) : G M_L_law (some (n, f)) false false 234 [some (vR SCR), some (vR 0), some (vR 79), some (vR 87), some (vI i), none, none] [] (cW κ (dE ν) o) (bc + 2) (bs + 12) Q := by
  have hN := ninv_of hK hR
  have e0 : n_st ν = k_ms κ 0 := hR.1
  refine g_aload_n (i := 1) (pc := 234) dL_law_234 rfl rfl ?_
  refine g_aload_n (i := 3) (pc := 235) dL_law_235 rfl rfl ?_
  refine g_callSX (pc := 236) (as := [vR 0, vR 87]) (bc' := 2) (bs' := 12) okS_L_load (by decide) l_L_102 dL_law_236 rfl (Nat.le_of_ble_eq_true rfl) (by decide) (Nat.le_of_ble_eq_true rfl) ⟨by omega, by omega⟩ (t_L_load (κ := κ) (δ := dE ν) (o := o) hK) (fun h => nomatch h) (fun r w' h => ?_) (fun E w' h => nomatch h.1)
  obtain ⟨h1, h2⟩ := h
  obtain rfl := Sum.inl.inj h1
  subst h2
  simp only [Option.toList, List.cons_append, List.nil_append]
  refine G.bud (bc := bc) (bs := bs) ?_ (by omega) (by omega)
  have hr9 : 0 ≤ xc_ld κ ∧ xc_ld κ ≤ 1 := by unfold xc_ld; (repeat' split) <;> omega
  refine g_istore (pc := 239) dL_law_239 (by decide) rfl ?_
  simp only [List.set_cons_succ, List.set_cons_zero]
  by_cases hc : xc_ld κ = 0
  · refine G.eqw (w' := cW (xk_ld κ) (dE ν) (va_up o 0 (wr ((ldS (k_sg κ) (k_ln κ) (k_ln κ - 1).toNat).2)))) (by rw [if_pos hc, if_pos hc]) ?_
    refine g_aload_n (i := 2) (pc := 241) dL_law_241 rfl rfl ?_
    refine g_v0 (pc := 242) okV_X4_load rfl l_L_105 dL_law_242 c_79 hc_4 (by decide) (by decide) (Nat.le_of_ble_eq_true rfl) (nr_0 (v' := (ldS (k_sg κ) (k_ln κ) (k_ln κ - 1).toNat).2) (t_X4_load (κ := (xk_ld κ)) (ν := ν) (o := (va_up o 0 (wr ((ldS (k_sg κ) (k_ln κ) (k_ln κ - 1).toNat).2)))) (al := false) hN) (by rw [xn_ld_e hR]; exact hc) (by rw [hR.2.2.2.2.2.1, hR.2.2.2.2.2.2])) (by simp only [c_len]) ?_
    simp only [Option.toList, List.cons_append, List.nil_append]
    refine g_istore (pc := 245) dL_law_245 (by decide) rfl ?_
    simp only [List.set_cons_succ, List.set_cons_zero]
    refine g_aload_n (i := 2) (pc := 247) dL_law_247 rfl rfl ?_
    refine g_v0 (pc := 248) okV_X4_thrown rfl l_L_91 dL_law_248 c_79 hc_4 (by decide) (by decide) (Nat.le_of_ble_eq_true rfl) (t_X4_thrown (ν := n_setth (n_setsv (n_setre (n_setst ν (ldS (n_tx ν) (n_tl ν) (n_tl ν - 1).toNat).1) 0) (va_up (va_up (n_sv ν) 0 0) 1 0)) 0)) rfl ?_
    simp only [Option.toList, List.cons_append, List.nil_append]
    refine G.eqS (v' := vI (0)) rfl ?_
    refine g_iload (pc := 251) dL_law_251 rfl ?_
    refine g_c_eq (tgt := 258) (pc := 253) dL_law_253 (by omega) (by decide) (fun _ => ?_) (fun c9 => absurd hc.symm c9)
    refine g_iload (pc := 258) dL_law_258 rfl ?_
    refine g_z_ne (tgt := 275) (pc := 260) dL_law_260 (by omega) (by decide) (fun c9 => absurd hc c9) (fun _ => ?_)
    refine g_aload_n (i := 3) (pc := 263) dL_law_263 rfl rfl ?_
    refine g_iconst (pc := 264) dL_law_264 ?_
    refine g_lald (pc := 265) dL_law_265 c_87 (by decide) ?_
    refine G.eqS (v' := vL (wr ((ldS (k_sg κ) (k_ln κ) (k_ln κ - 1).toNat).2))) (congrArg (fun z => vL z) (up_s _ _ _)) ?_
    refine g_iload (pc := 266) dL_law_266 rfl ?_
    refine g_wr ?_
    have hw9 := wr_rng ((ldS (k_sg κ) (k_ln κ) (k_ln κ - 1).toNat).2)
    refine g_i2l (pc := 268) dL_law_268 hw9 ?_
    refine g_lcmp (pc := 269) dL_law_269 (by omega) (by omega) ?_
    refine g_z_eq (tgt := 275) (pc := 270) dL_law_270 (by rw [bcmp_0]; decide) (by decide) (fun _ => ?_) (fun c9 => absurd (bcmp_0 _) c9)
    refine g_goto (tgt := 1561) (pc := 275) dL_law_275 (by decide) ?_
    refine G.drop 6 (G.drop 5 ?_)
    simp only [List.set_cons_succ, List.set_cons_zero]
    exact hB _ _ _ (kinv_ms (kinv_l0 hK) (inv_ldS _ _ _)) (rel_th ((by unfold xk_ld; rw [← hR.2.2.2.2.2.1, ← hR.2.2.2.2.2.2]; exact rel_ld hR)))
  · refine G.eqw (w' := cW κ (dE ν) o) (by rw [if_neg hc, if_neg hc]) ?_
    refine g_aload_n (i := 2) (pc := 241) dL_law_241 rfl rfl ?_
    refine g_v0 (pc := 242) okV_X4_load rfl l_L_105 dL_law_242 c_79 hc_4 (by decide) (by decide) (Nat.le_of_ble_eq_true rfl) (nr_1 (k := xc_ld κ) (t_X4_load (κ := κ) (ν := ν) (o := o) (al := false) hN) (xn_ld_e hR) hc) (by simp only [c_len]) ?_
    simp only [Option.toList, List.cons_append, List.nil_append]
    refine g_istore (pc := 245) dL_law_245 (by decide) rfl ?_
    simp only [List.set_cons_succ, List.set_cons_zero]
    refine g_aload_n (i := 2) (pc := 247) dL_law_247 rfl rfl ?_
    refine g_v0 (pc := 248) okV_X4_thrown rfl l_L_91 dL_law_248 c_79 hc_4 (by decide) (by decide) (Nat.le_of_ble_eq_true rfl) (t_X4_thrown (ν := n_setth ν (xc_ld κ))) rfl ?_
    simp only [Option.toList, List.cons_append, List.nil_append]
    refine G.eqS (v' := vI (xc_ld κ)) rfl ?_
    refine g_iload (pc := 251) dL_law_251 rfl ?_
    refine g_c_eq (tgt := 258) (pc := 253) dL_law_253 (by omega) (by decide) (fun _ => ?_) (fun c9 => absurd rfl c9)
    refine g_iload (pc := 258) dL_law_258 rfl ?_
    refine g_z_ne (tgt := 275) (pc := 260) dL_law_260 (by omega) (by decide) (fun _ => ?_) (fun c9 => absurd c9 hc)
    refine g_goto (tgt := 1561) (pc := 275) dL_law_275 (by decide) ?_
    refine G.drop 6 (G.drop 5 ?_)
    simp only [List.set_cons_succ, List.set_cons_zero]
    exact hB _ _ _ (hK) (rel_th (hR))
set_option maxRecDepth 20000 in
set_option maxHeartbeats 400000 in
theorem lc_4 {n : Nat} {f : Nat → Int} {i : Int} {κ : KT} {ν : NT} {o : Nat → Int} {bc bs : Nat} {Q : (Option MV) ⊕ String → List MC → Prop} (hf : ∀ j, -2147483648 ≤ f j ∧ f j < 2147483648) (h_i : 0 ≤ i ∧ i + 3 < n ∧ n < 2147483648) (hK : KInv κ) (hR : Rel κ ν) (hB : LB n f i bc bs Q) : G M_L_law (some (n, f)) false false 278 [some (vR SCR), some (vR 0), some (vR 79), some (vR 87), some (vI i), none, none] [] (cW κ (dE ν) o) (bc + 2) (bs + 12) Q := by
  have hN := ninv_of hK hR
  have e0 : n_st ν = k_ms κ 0 := hR.1
  refine g_aload_n (i := 1) (pc := 278) dL_law_278 rfl rfl ?_
  refine g_aload_n (i := 0) (pc := 279) dL_law_279 rfl rfl ?_
  refine g_iload (pc := 280) dL_law_280 rfl ?_
  refine g_iconst (pc := 282) dL_law_282 ?_
  refine g_iadd (pc := 283) dL_law_283 ?_
  refine g_sld (pc := 284) rfl dL_law_284 (by omega) ?_
  refine g_aload_n (i := 3) (pc := 285) dL_law_285 rfl rfl ?_
  refine g_callSX (pc := 286) (as := [vR 0, vI (f (i + 1).toNat), vR 87]) (bc' := 2) (bs' := 12) okS_L_about (by decide) l_L_106 dL_law_286 rfl (Nat.le_of_ble_eq_true rfl) (by decide) (Nat.le_of_ble_eq_true rfl) ⟨by omega, by omega⟩ (t_L_about (κ := κ) (δ := dE ν) (o := o) hK (hf _)) (fun h => nomatch h) (fun r w' h => ?_) (fun E w' h => nomatch h.1)
  obtain ⟨h1, h2⟩ := h
  obtain rfl := Sum.inl.inj h1
  subst h2
  simp only [Option.toList, List.cons_append, List.nil_append]
  refine G.bud (bc := bc) (bs := bs) ?_ (by omega) (by omega)
  have hr9 : 0 ≤ xc_ab (f (i + 1).toNat) ∧ xc_ab (f (i + 1).toNat) ≤ 1 := by unfold xc_ab; (repeat' split) <;> omega
  refine g_istore (pc := 289) dL_law_289 (by decide) rfl ?_
  simp only [List.set_cons_succ, List.set_cons_zero]
  by_cases hc : xc_ab (f (i + 1).toNat) = 0
  · refine G.eqw (w' := cW (κ) (dE ν) (va_up o 0 (wr (ab (k_ms κ 0) (f (i + 1).toNat))))) (by rw [if_pos hc, if_pos hc]) ?_
    refine g_aload_n (i := 2) (pc := 291) dL_law_291 rfl rfl ?_
    refine g_aload_n (i := 0) (pc := 292) dL_law_292 rfl rfl ?_
    refine g_iload (pc := 293) dL_law_293 rfl ?_
    refine g_iconst (pc := 295) dL_law_295 ?_
    refine g_iadd (pc := 296) dL_law_296 ?_
    refine g_sld (pc := 297) rfl dL_law_297 (by omega) ?_
    refine g_v1 (pc := 298) okV_X4_about rfl l_L_108 dL_law_298 c_79 hc_4 (by decide) (by decide) (Nat.le_of_ble_eq_true rfl) (nr_0 (v' := ab (k_ms κ 0) (f (i + 1).toNat)) (t_X4_about (κ := (κ)) (ν := ν) (o := (va_up o 0 (wr (ab (k_ms κ 0) (f (i + 1).toNat))))) (al := false) hN (hf _)) hc (by rw [e0])) (by simp only [c_len]) ?_
    simp only [Option.toList, List.cons_append, List.nil_append]
    refine g_istore (pc := 301) dL_law_301 (by decide) rfl ?_
    simp only [List.set_cons_succ, List.set_cons_zero]
    refine g_aload_n (i := 2) (pc := 303) dL_law_303 rfl rfl ?_
    refine g_v0 (pc := 304) okV_X4_thrown rfl l_L_91 dL_law_304 c_79 hc_4 (by decide) (by decide) (Nat.le_of_ble_eq_true rfl) (t_X4_thrown (ν := n_setth (ν) 0)) rfl ?_
    simp only [Option.toList, List.cons_append, List.nil_append]
    refine G.eqS (v' := vI (0)) rfl ?_
    refine g_iload (pc := 307) dL_law_307 rfl ?_
    refine g_c_eq (tgt := 314) (pc := 309) dL_law_309 (by omega) (by decide) (fun _ => ?_) (fun c9 => absurd hc.symm c9)
    refine g_iload (pc := 314) dL_law_314 rfl ?_
    refine g_z_ne (tgt := 331) (pc := 316) dL_law_316 (by omega) (by decide) (fun c9 => absurd hc c9) (fun _ => ?_)
    refine g_aload_n (i := 3) (pc := 319) dL_law_319 rfl rfl ?_
    refine g_iconst (pc := 320) dL_law_320 ?_
    refine g_lald (pc := 321) dL_law_321 c_87 (by decide) ?_
    refine G.eqS (v' := vL (wr (ab (k_ms κ 0) (f (i + 1).toNat)))) (congrArg (fun z => vL z) (up_s _ _ _)) ?_
    refine g_iload (pc := 322) dL_law_322 rfl ?_
    refine g_wr ?_
    have hw9 := wr_rng (ab (k_ms κ 0) (f (i + 1).toNat))
    refine g_i2l (pc := 324) dL_law_324 hw9 ?_
    refine g_lcmp (pc := 325) dL_law_325 (by omega) (by omega) ?_
    refine g_z_eq (tgt := 331) (pc := 326) dL_law_326 (by rw [bcmp_0]; decide) (by decide) (fun _ => ?_) (fun c9 => absurd (bcmp_0 _) c9)
    refine g_goto (tgt := 1561) (pc := 331) dL_law_331 (by decide) ?_
    refine G.drop 6 (G.drop 5 ?_)
    simp only [List.set_cons_succ, List.set_cons_zero]
    exact hB _ _ _ (hK) (rel_th (hR))
  · refine G.eqw (w' := cW κ (dE ν) o) (by rw [if_neg hc, if_neg hc]) ?_
    refine g_aload_n (i := 2) (pc := 291) dL_law_291 rfl rfl ?_
    refine g_aload_n (i := 0) (pc := 292) dL_law_292 rfl rfl ?_
    refine g_iload (pc := 293) dL_law_293 rfl ?_
    refine g_iconst (pc := 295) dL_law_295 ?_
    refine g_iadd (pc := 296) dL_law_296 ?_
    refine g_sld (pc := 297) rfl dL_law_297 (by omega) ?_
    refine g_v1 (pc := 298) okV_X4_about rfl l_L_108 dL_law_298 c_79 hc_4 (by decide) (by decide) (Nat.le_of_ble_eq_true rfl) (nr_1 (k := xc_ab (f (i + 1).toNat)) (t_X4_about (κ := κ) (ν := ν) (o := o) (al := false) hN (hf _)) rfl hc) (by simp only [c_len]) ?_
    simp only [Option.toList, List.cons_append, List.nil_append]
    refine g_istore (pc := 301) dL_law_301 (by decide) rfl ?_
    simp only [List.set_cons_succ, List.set_cons_zero]
    refine g_aload_n (i := 2) (pc := 303) dL_law_303 rfl rfl ?_
    refine g_v0 (pc := 304) okV_X4_thrown rfl l_L_91 dL_law_304 c_79 hc_4 (by decide) (by decide) (Nat.le_of_ble_eq_true rfl) (t_X4_thrown (ν := n_setth ν (xc_ab (f (i + 1).toNat)))) rfl ?_
    simp only [Option.toList, List.cons_append, List.nil_append]
    refine G.eqS (v' := vI (xc_ab (f (i + 1).toNat))) rfl ?_
    refine g_iload (pc := 307) dL_law_307 rfl ?_
    refine g_c_eq (tgt := 314) (pc := 309) dL_law_309 (by omega) (by decide) (fun _ => ?_) (fun c9 => absurd rfl c9)
    refine g_iload (pc := 314) dL_law_314 rfl ?_
    refine g_z_ne (tgt := 331) (pc := 316) dL_law_316 (by omega) (by decide) (fun _ => ?_) (fun c9 => absurd c9 hc)
    refine g_goto (tgt := 1561) (pc := 331) dL_law_331 (by decide) ?_
    refine G.drop 6 (G.drop 5 ?_)
    simp only [List.set_cons_succ, List.set_cons_zero]
    exact hB _ _ _ (hK) (rel_th (hR))
set_option maxRecDepth 20000 in
set_option maxHeartbeats 400000 in
theorem lc_5 {n : Nat} {f : Nat → Int} {i : Int} {κ : KT} {ν : NT} {o : Nat → Int} {bc bs : Nat} {Q : (Option MV) ⊕ String → List MC → Prop} (hf : ∀ j, -2147483648 ≤ f j ∧ f j < 2147483648) (h_i : 0 ≤ i ∧ i + 3 < n ∧ n < 2147483648) (hK : KInv κ) (hR : Rel κ ν) (hB : LB n f i bc bs Q) : G M_L_law (some (n, f)) false false 334 [some (vR SCR), some (vR 0), some (vR 79), some (vR 87), some (vI i), none, none] [] (cW κ (dE ν) o) (bc + 2) (bs + 12) Q := by
  have hN := ninv_of hK hR
  have e0 : n_st ν = k_ms κ 0 := hR.1
  refine g_aload_n (i := 1) (pc := 334) dL_law_334 rfl rfl ?_
  refine g_aload_n (i := 0) (pc := 335) dL_law_335 rfl rfl ?_
  refine g_iload (pc := 336) dL_law_336 rfl ?_
  refine g_iconst (pc := 338) dL_law_338 ?_
  refine g_iadd (pc := 339) dL_law_339 ?_
  refine g_sld (pc := 340) rfl dL_law_340 (by omega) ?_
  refine g_aload_n (i := 0) (pc := 341) dL_law_341 rfl rfl ?_
  refine g_iload (pc := 342) dL_law_342 rfl ?_
  refine g_iconst (pc := 344) dL_law_344 ?_
  refine g_iadd (pc := 345) dL_law_345 ?_
  refine g_sld (pc := 346) rfl dL_law_346 (by omega) ?_
  refine g_aload_n (i := 0) (pc := 347) dL_law_347 rfl rfl ?_
  refine g_iload (pc := 348) dL_law_348 rfl ?_
  refine g_iconst (pc := 350) dL_law_350 ?_
  refine g_iadd (pc := 351) dL_law_351 ?_
  refine g_sld (pc := 352) rfl dL_law_352 (by omega) ?_
  refine g_aload_n (i := 3) (pc := 353) dL_law_353 rfl rfl ?_
  refine g_callSX (pc := 354) (as := [vR 0, vI (f (i + 1).toNat), vI (f (i + 2).toNat), vI (f (i + 3).toNat), vR 87]) (bc' := 2) (bs' := 12) okS_L_page (by decide) l_L_109 dL_law_354 rfl (Nat.le_of_ble_eq_true rfl) (by decide) (Nat.le_of_ble_eq_true rfl) ⟨by omega, by omega⟩ (t_L_page (κ := κ) (δ := dE ν) (o := o) hK (hf _) (hf _) (hf _)) (fun h => nomatch h) (fun r w' h => ?_) (fun E w' h => nomatch h.1)
  obtain ⟨h1, h2⟩ := h
  obtain rfl := Sum.inl.inj h1
  subst h2
  simp only [Option.toList, List.cons_append, List.nil_append]
  refine G.bud (bc := bc) (bs := bs) ?_ (by omega) (by omega)
  have hr9 : 0 ≤ xc_pg (k_ms κ 0) (f (i + 1).toNat) (f (i + 2).toNat) (f (i + 3).toNat) ∧ xc_pg (k_ms κ 0) (f (i + 1).toNat) (f (i + 2).toNat) (f (i + 3).toNat) ≤ 2 := by unfold xc_pg; (repeat' split) <;> omega
  refine g_istore (pc := 357) dL_law_357 (by decide) rfl ?_
  simp only [List.set_cons_succ, List.set_cons_zero]
  by_cases hc : xc_pg (k_ms κ 0) (f (i + 1).toNat) (f (i + 2).toNat) (f (i + 3).toNat) = 0
  · refine G.eqw (w' := cW (κ) (dE ν) (va_up o 0 (wr (pgv (k_ms κ 0) (f (i + 1).toNat) (f (i + 2).toNat) (f (i + 3).toNat))))) (by rw [if_pos hc, if_pos hc]) ?_
    refine g_aload_n (i := 2) (pc := 359) dL_law_359 rfl rfl ?_
    refine g_aload_n (i := 0) (pc := 360) dL_law_360 rfl rfl ?_
    refine g_iload (pc := 361) dL_law_361 rfl ?_
    refine g_iconst (pc := 363) dL_law_363 ?_
    refine g_iadd (pc := 364) dL_law_364 ?_
    refine g_sld (pc := 365) rfl dL_law_365 (by omega) ?_
    refine g_aload_n (i := 0) (pc := 366) dL_law_366 rfl rfl ?_
    refine g_iload (pc := 367) dL_law_367 rfl ?_
    refine g_iconst (pc := 369) dL_law_369 ?_
    refine g_iadd (pc := 370) dL_law_370 ?_
    refine g_sld (pc := 371) rfl dL_law_371 (by omega) ?_
    refine g_aload_n (i := 0) (pc := 372) dL_law_372 rfl rfl ?_
    refine g_iload (pc := 373) dL_law_373 rfl ?_
    refine g_iconst (pc := 375) dL_law_375 ?_
    refine g_iadd (pc := 376) dL_law_376 ?_
    refine g_sld (pc := 377) rfl dL_law_377 (by omega) ?_
    refine g_v3 (pc := 378) okV_X4_page rfl l_L_112 dL_law_378 c_79 hc_4 (by decide) (by decide) (Nat.le_of_ble_eq_true rfl) (nr_0 (v' := pgv (k_ms κ 0) (f (i + 1).toNat) (f (i + 2).toNat) (f (i + 3).toNat)) (t_X4_page (κ := (κ)) (ν := ν) (o := (va_up o 0 (wr (pgv (k_ms κ 0) (f (i + 1).toNat) (f (i + 2).toNat) (f (i + 3).toNat))))) (al := false) hN (hf _) (hf _) (hf _)) (by rw [e0]; exact hc) (by rw [e0])) (by simp only [c_len]) ?_
    simp only [Option.toList, List.cons_append, List.nil_append]
    refine g_istore (pc := 381) dL_law_381 (by decide) rfl ?_
    simp only [List.set_cons_succ, List.set_cons_zero]
    refine g_aload_n (i := 2) (pc := 383) dL_law_383 rfl rfl ?_
    refine g_v0 (pc := 384) okV_X4_thrown rfl l_L_91 dL_law_384 c_79 hc_4 (by decide) (by decide) (Nat.le_of_ble_eq_true rfl) (t_X4_thrown (ν := n_setth (ν) 0)) rfl ?_
    simp only [Option.toList, List.cons_append, List.nil_append]
    refine G.eqS (v' := vI (0)) rfl ?_
    refine g_iload (pc := 387) dL_law_387 rfl ?_
    refine g_c_eq (tgt := 394) (pc := 389) dL_law_389 (by omega) (by decide) (fun _ => ?_) (fun c9 => absurd hc.symm c9)
    refine g_iload (pc := 394) dL_law_394 rfl ?_
    refine g_z_ne (tgt := 411) (pc := 396) dL_law_396 (by omega) (by decide) (fun c9 => absurd hc c9) (fun _ => ?_)
    refine g_aload_n (i := 3) (pc := 399) dL_law_399 rfl rfl ?_
    refine g_iconst (pc := 400) dL_law_400 ?_
    refine g_lald (pc := 401) dL_law_401 c_87 (by decide) ?_
    refine G.eqS (v' := vL (wr (pgv (k_ms κ 0) (f (i + 1).toNat) (f (i + 2).toNat) (f (i + 3).toNat)))) (congrArg (fun z => vL z) (up_s _ _ _)) ?_
    refine g_iload (pc := 402) dL_law_402 rfl ?_
    refine g_wr ?_
    have hw9 := wr_rng (pgv (k_ms κ 0) (f (i + 1).toNat) (f (i + 2).toNat) (f (i + 3).toNat))
    refine g_i2l (pc := 404) dL_law_404 hw9 ?_
    refine g_lcmp (pc := 405) dL_law_405 (by omega) (by omega) ?_
    refine g_z_eq (tgt := 411) (pc := 406) dL_law_406 (by rw [bcmp_0]; decide) (by decide) (fun _ => ?_) (fun c9 => absurd (bcmp_0 _) c9)
    refine g_goto (tgt := 1561) (pc := 411) dL_law_411 (by decide) ?_
    refine G.drop 6 (G.drop 5 ?_)
    simp only [List.set_cons_succ, List.set_cons_zero]
    exact hB _ _ _ (hK) (rel_th (hR))
  · refine G.eqw (w' := cW κ (dE ν) o) (by rw [if_neg hc, if_neg hc]) ?_
    refine g_aload_n (i := 2) (pc := 359) dL_law_359 rfl rfl ?_
    refine g_aload_n (i := 0) (pc := 360) dL_law_360 rfl rfl ?_
    refine g_iload (pc := 361) dL_law_361 rfl ?_
    refine g_iconst (pc := 363) dL_law_363 ?_
    refine g_iadd (pc := 364) dL_law_364 ?_
    refine g_sld (pc := 365) rfl dL_law_365 (by omega) ?_
    refine g_aload_n (i := 0) (pc := 366) dL_law_366 rfl rfl ?_
    refine g_iload (pc := 367) dL_law_367 rfl ?_
    refine g_iconst (pc := 369) dL_law_369 ?_
    refine g_iadd (pc := 370) dL_law_370 ?_
    refine g_sld (pc := 371) rfl dL_law_371 (by omega) ?_
    refine g_aload_n (i := 0) (pc := 372) dL_law_372 rfl rfl ?_
    refine g_iload (pc := 373) dL_law_373 rfl ?_
    refine g_iconst (pc := 375) dL_law_375 ?_
    refine g_iadd (pc := 376) dL_law_376 ?_
    refine g_sld (pc := 377) rfl dL_law_377 (by omega) ?_
    refine g_v3 (pc := 378) okV_X4_page rfl l_L_112 dL_law_378 c_79 hc_4 (by decide) (by decide) (Nat.le_of_ble_eq_true rfl) (nr_1 (k := xc_pg (k_ms κ 0) (f (i + 1).toNat) (f (i + 2).toNat) (f (i + 3).toNat)) (t_X4_page (κ := κ) (ν := ν) (o := o) (al := false) hN (hf _) (hf _) (hf _)) (by rw [e0]) hc) (by simp only [c_len]) ?_
    simp only [Option.toList, List.cons_append, List.nil_append]
    refine g_istore (pc := 381) dL_law_381 (by decide) rfl ?_
    simp only [List.set_cons_succ, List.set_cons_zero]
    refine g_aload_n (i := 2) (pc := 383) dL_law_383 rfl rfl ?_
    refine g_v0 (pc := 384) okV_X4_thrown rfl l_L_91 dL_law_384 c_79 hc_4 (by decide) (by decide) (Nat.le_of_ble_eq_true rfl) (t_X4_thrown (ν := n_setth ν (xc_pg (k_ms κ 0) (f (i + 1).toNat) (f (i + 2).toNat) (f (i + 3).toNat)))) rfl ?_
    simp only [Option.toList, List.cons_append, List.nil_append]
    refine G.eqS (v' := vI (xc_pg (k_ms κ 0) (f (i + 1).toNat) (f (i + 2).toNat) (f (i + 3).toNat))) rfl ?_
    refine g_iload (pc := 387) dL_law_387 rfl ?_
    refine g_c_eq (tgt := 394) (pc := 389) dL_law_389 (by omega) (by decide) (fun _ => ?_) (fun c9 => absurd rfl c9)
    refine g_iload (pc := 394) dL_law_394 rfl ?_
    refine g_z_ne (tgt := 411) (pc := 396) dL_law_396 (by omega) (by decide) (fun _ => ?_) (fun c9 => absurd c9 hc)
    refine g_goto (tgt := 1561) (pc := 411) dL_law_411 (by decide) ?_
    refine G.drop 6 (G.drop 5 ?_)
    simp only [List.set_cons_succ, List.set_cons_zero]
    exact hB _ _ _ (hK) (rel_th (hR))
set_option maxRecDepth 20000 in
set_option maxHeartbeats 400000 in
theorem lc_6 {n : Nat} {f : Nat → Int} {i : Int} {κ : KT} {ν : NT} {o : Nat → Int} {bc bs : Nat} {Q : (Option MV) ⊕ String → List MC → Prop} (hf : ∀ j, -2147483648 ≤ f j ∧ f j < 2147483648) (h_i : 0 ≤ i ∧ i + 3 < n ∧ n < 2147483648) (hK : KInv κ) (hR : Rel κ ν) (hB : LB n f i bc bs Q) : G M_L_law (some (n, f)) false false 414 [some (vR SCR), some (vR 0), some (vR 79), some (vR 87), some (vI i), none, none] [] (cW κ (dE ν) o) (bc + 2) (bs + 12) Q := by
  have hN := ninv_of hK hR
  have e0 : n_st ν = k_ms κ 0 := hR.1
  refine g_aload_n (i := 1) (pc := 414) dL_law_414 rfl rfl ?_
  refine g_aload_n (i := 0) (pc := 415) dL_law_415 rfl rfl ?_
  refine g_iload (pc := 416) dL_law_416 rfl ?_
  refine g_iconst (pc := 418) dL_law_418 ?_
  refine g_iadd (pc := 419) dL_law_419 ?_
  refine g_sld (pc := 420) rfl dL_law_420 (by omega) ?_
  refine g_aload_n (i := 0) (pc := 421) dL_law_421 rfl rfl ?_
  refine g_iload (pc := 422) dL_law_422 rfl ?_
  refine g_iconst (pc := 424) dL_law_424 ?_
  refine g_iadd (pc := 425) dL_law_425 ?_
  refine g_sld (pc := 426) rfl dL_law_426 (by omega) ?_
  refine g_aload_n (i := 3) (pc := 427) dL_law_427 rfl rfl ?_
  refine g_callSX (pc := 428) (as := [vR 0, vI (f (i + 1).toNat), vI (f (i + 2).toNat), vR 87]) (bc' := 2) (bs' := 12) okS_L_user (by decide) l_L_113 dL_law_428 rfl (Nat.le_of_ble_eq_true rfl) (by decide) (Nat.le_of_ble_eq_true rfl) ⟨by omega, by omega⟩ (t_L_user (κ := κ) (δ := dE ν) (o := o) hK (hf _) (hf _)) (fun h => nomatch h) (fun r w' h => ?_) (fun E w' h => nomatch h.1)
  obtain ⟨h1, h2⟩ := h
  obtain rfl := Sum.inl.inj h1
  subst h2
  simp only [Option.toList, List.cons_append, List.nil_append]
  refine G.bud (bc := bc) (bs := bs) ?_ (by omega) (by omega)
  have hr9 : 0 ≤ xc_us (f (i + 1).toNat) (f (i + 2).toNat) ∧ xc_us (f (i + 1).toNat) (f (i + 2).toNat) ≤ 2 := by unfold xc_us; (repeat' split) <;> omega
  refine g_istore (pc := 431) dL_law_431 (by decide) rfl ?_
  simp only [List.set_cons_succ, List.set_cons_zero]
  by_cases hc : xc_us (f (i + 1).toNat) (f (i + 2).toNat) = 0
  · refine G.eqw (w' := cW (κ) (dE ν) (va_up o 0 (wr (uat (k_ms κ 0) (f (i + 1).toNat) (f (i + 2).toNat))))) (by rw [if_pos hc, if_pos hc]) ?_
    refine g_aload_n (i := 2) (pc := 433) dL_law_433 rfl rfl ?_
    refine g_aload_n (i := 0) (pc := 434) dL_law_434 rfl rfl ?_
    refine g_iload (pc := 435) dL_law_435 rfl ?_
    refine g_iconst (pc := 437) dL_law_437 ?_
    refine g_iadd (pc := 438) dL_law_438 ?_
    refine g_sld (pc := 439) rfl dL_law_439 (by omega) ?_
    refine g_aload_n (i := 0) (pc := 440) dL_law_440 rfl rfl ?_
    refine g_iload (pc := 441) dL_law_441 rfl ?_
    refine g_iconst (pc := 443) dL_law_443 ?_
    refine g_iadd (pc := 444) dL_law_444 ?_
    refine g_sld (pc := 445) rfl dL_law_445 (by omega) ?_
    refine g_v2 (pc := 446) okV_X4_user rfl l_L_116 dL_law_446 c_79 hc_4 (by decide) (by decide) (Nat.le_of_ble_eq_true rfl) (nr_0 (v' := uat (k_ms κ 0) (f (i + 1).toNat) (f (i + 2).toNat)) (t_X4_user (κ := (κ)) (ν := ν) (o := (va_up o 0 (wr (uat (k_ms κ 0) (f (i + 1).toNat) (f (i + 2).toNat))))) (al := false) hN (hf _) (hf _)) hc (by rw [e0])) (by simp only [c_len]) ?_
    simp only [Option.toList, List.cons_append, List.nil_append]
    refine g_istore (pc := 449) dL_law_449 (by decide) rfl ?_
    simp only [List.set_cons_succ, List.set_cons_zero]
    refine g_aload_n (i := 2) (pc := 451) dL_law_451 rfl rfl ?_
    refine g_v0 (pc := 452) okV_X4_thrown rfl l_L_91 dL_law_452 c_79 hc_4 (by decide) (by decide) (Nat.le_of_ble_eq_true rfl) (t_X4_thrown (ν := n_setth (ν) 0)) rfl ?_
    simp only [Option.toList, List.cons_append, List.nil_append]
    refine G.eqS (v' := vI (0)) rfl ?_
    refine g_iload (pc := 455) dL_law_455 rfl ?_
    refine g_c_eq (tgt := 462) (pc := 457) dL_law_457 (by omega) (by decide) (fun _ => ?_) (fun c9 => absurd hc.symm c9)
    refine g_iload (pc := 462) dL_law_462 rfl ?_
    refine g_z_ne (tgt := 479) (pc := 464) dL_law_464 (by omega) (by decide) (fun c9 => absurd hc c9) (fun _ => ?_)
    refine g_aload_n (i := 3) (pc := 467) dL_law_467 rfl rfl ?_
    refine g_iconst (pc := 468) dL_law_468 ?_
    refine g_lald (pc := 469) dL_law_469 c_87 (by decide) ?_
    refine G.eqS (v' := vL (wr (uat (k_ms κ 0) (f (i + 1).toNat) (f (i + 2).toNat)))) (congrArg (fun z => vL z) (up_s _ _ _)) ?_
    refine g_iload (pc := 470) dL_law_470 rfl ?_
    refine g_wr ?_
    have hw9 := wr_rng (uat (k_ms κ 0) (f (i + 1).toNat) (f (i + 2).toNat))
    refine g_i2l (pc := 472) dL_law_472 hw9 ?_
    refine g_lcmp (pc := 473) dL_law_473 (by omega) (by omega) ?_
    refine g_z_eq (tgt := 479) (pc := 474) dL_law_474 (by rw [bcmp_0]; decide) (by decide) (fun _ => ?_) (fun c9 => absurd (bcmp_0 _) c9)
    refine g_goto (tgt := 1561) (pc := 479) dL_law_479 (by decide) ?_
    refine G.drop 6 (G.drop 5 ?_)
    simp only [List.set_cons_succ, List.set_cons_zero]
    exact hB _ _ _ (hK) (rel_th (hR))
  · refine G.eqw (w' := cW κ (dE ν) o) (by rw [if_neg hc, if_neg hc]) ?_
    refine g_aload_n (i := 2) (pc := 433) dL_law_433 rfl rfl ?_
    refine g_aload_n (i := 0) (pc := 434) dL_law_434 rfl rfl ?_
    refine g_iload (pc := 435) dL_law_435 rfl ?_
    refine g_iconst (pc := 437) dL_law_437 ?_
    refine g_iadd (pc := 438) dL_law_438 ?_
    refine g_sld (pc := 439) rfl dL_law_439 (by omega) ?_
    refine g_aload_n (i := 0) (pc := 440) dL_law_440 rfl rfl ?_
    refine g_iload (pc := 441) dL_law_441 rfl ?_
    refine g_iconst (pc := 443) dL_law_443 ?_
    refine g_iadd (pc := 444) dL_law_444 ?_
    refine g_sld (pc := 445) rfl dL_law_445 (by omega) ?_
    refine g_v2 (pc := 446) okV_X4_user rfl l_L_116 dL_law_446 c_79 hc_4 (by decide) (by decide) (Nat.le_of_ble_eq_true rfl) (nr_1 (k := xc_us (f (i + 1).toNat) (f (i + 2).toNat)) (t_X4_user (κ := κ) (ν := ν) (o := o) (al := false) hN (hf _) (hf _)) rfl hc) (by simp only [c_len]) ?_
    simp only [Option.toList, List.cons_append, List.nil_append]
    refine g_istore (pc := 449) dL_law_449 (by decide) rfl ?_
    simp only [List.set_cons_succ, List.set_cons_zero]
    refine g_aload_n (i := 2) (pc := 451) dL_law_451 rfl rfl ?_
    refine g_v0 (pc := 452) okV_X4_thrown rfl l_L_91 dL_law_452 c_79 hc_4 (by decide) (by decide) (Nat.le_of_ble_eq_true rfl) (t_X4_thrown (ν := n_setth ν (xc_us (f (i + 1).toNat) (f (i + 2).toNat)))) rfl ?_
    simp only [Option.toList, List.cons_append, List.nil_append]
    refine G.eqS (v' := vI (xc_us (f (i + 1).toNat) (f (i + 2).toNat))) rfl ?_
    refine g_iload (pc := 455) dL_law_455 rfl ?_
    refine g_c_eq (tgt := 462) (pc := 457) dL_law_457 (by omega) (by decide) (fun _ => ?_) (fun c9 => absurd rfl c9)
    refine g_iload (pc := 462) dL_law_462 rfl ?_
    refine g_z_ne (tgt := 479) (pc := 464) dL_law_464 (by omega) (by decide) (fun _ => ?_) (fun c9 => absurd c9 hc)
    refine g_goto (tgt := 1561) (pc := 479) dL_law_479 (by decide) ?_
    refine G.drop 6 (G.drop 5 ?_)
    simp only [List.set_cons_succ, List.set_cons_zero]
    exact hB _ _ _ (hK) (rel_th (hR))
set_option maxRecDepth 20000 in
set_option maxHeartbeats 400000 in
theorem lc_7 {n : Nat} {f : Nat → Int} {i : Int} {κ : KT} {ν : NT} {o : Nat → Int} {bc bs : Nat} {Q : (Option MV) ⊕ String → List MC → Prop} (hf : ∀ j, -2147483648 ≤ f j ∧ f j < 2147483648) (h_i : 0 ≤ i ∧ i + 3 < n ∧ n < 2147483648) (hK : KInv κ) (hR : Rel κ ν) (hB : LB n f i bc bs Q) : G M_L_law (some (n, f)) false false 482 [some (vR SCR), some (vR 0), some (vR 79), some (vR 87), some (vI i), none, none] [] (cW κ (dE ν) o) (bc + 2) (bs + 12) Q := by
  have hN := ninv_of hK hR
  have e0 : n_st ν = k_ms κ 0 := hR.1
  refine g_aload_n (i := 1) (pc := 482) dL_law_482 rfl rfl ?_
  refine g_aload_n (i := 0) (pc := 483) dL_law_483 rfl rfl ?_
  refine g_iload (pc := 484) dL_law_484 rfl ?_
  refine g_iconst (pc := 486) dL_law_486 ?_
  refine g_iadd (pc := 487) dL_law_487 ?_
  refine g_sld (pc := 488) rfl dL_law_488 (by omega) ?_
  refine g_aload_n (i := 0) (pc := 489) dL_law_489 rfl rfl ?_
  refine g_iload (pc := 490) dL_law_490 rfl ?_
  refine g_iconst (pc := 492) dL_law_492 ?_
  refine g_iadd (pc := 493) dL_law_493 ?_
  refine g_sld (pc := 494) rfl dL_law_494 (by omega) ?_
  refine g_aload_n (i := 0) (pc := 495) dL_law_495 rfl rfl ?_
  refine g_iload (pc := 496) dL_law_496 rfl ?_
  refine g_iconst (pc := 498) dL_law_498 ?_
  refine g_iadd (pc := 499) dL_law_499 ?_
  refine g_sld (pc := 500) rfl dL_law_500 (by omega) ?_
  refine g_aload_n (i := 3) (pc := 501) dL_law_501 rfl rfl ?_
  refine g_callSX (pc := 502) (as := [vR 0, vI (f (i + 1).toNat), vI (f (i + 2).toNat), vI (f (i + 3).toNat), vR 87]) (bc' := 2) (bs' := 12) okS_L_group (by decide) l_L_117 dL_law_502 rfl (Nat.le_of_ble_eq_true rfl) (by decide) (Nat.le_of_ble_eq_true rfl) ⟨by omega, by omega⟩ (t_L_group (κ := κ) (δ := dE ν) (o := o) hK (hf _) (hf _) (hf _)) (fun h => nomatch h) (fun r w' h => ?_) (fun E w' h => nomatch h.1)
  obtain ⟨h1, h2⟩ := h
  obtain rfl := Sum.inl.inj h1
  subst h2
  simp only [Option.toList, List.cons_append, List.nil_append]
  refine G.bud (bc := bc) (bs := bs) ?_ (by omega) (by omega)
  have hr9 : 0 ≤ xc_gr (k_ms κ 0) (f (i + 1).toNat) (f (i + 2).toNat) (f (i + 3).toNat) ∧ xc_gr (k_ms κ 0) (f (i + 1).toNat) (f (i + 2).toNat) (f (i + 3).toNat) ≤ 2 := by unfold xc_gr; (repeat' split) <;> omega
  refine g_istore (pc := 505) dL_law_505 (by decide) rfl ?_
  simp only [List.set_cons_succ, List.set_cons_zero]
  by_cases hc : xc_gr (k_ms κ 0) (f (i + 1).toNat) (f (i + 2).toNat) (f (i + 3).toNat) = 0
  · refine G.eqw (w' := cW (κ) (dE ν) (va_up o 0 (wr (grv (k_ms κ 0) (f (i + 1).toNat) (f (i + 2).toNat) (f (i + 3).toNat))))) (by rw [if_pos hc, if_pos hc]) ?_
    refine g_aload_n (i := 2) (pc := 507) dL_law_507 rfl rfl ?_
    refine g_aload_n (i := 0) (pc := 508) dL_law_508 rfl rfl ?_
    refine g_iload (pc := 509) dL_law_509 rfl ?_
    refine g_iconst (pc := 511) dL_law_511 ?_
    refine g_iadd (pc := 512) dL_law_512 ?_
    refine g_sld (pc := 513) rfl dL_law_513 (by omega) ?_
    refine g_aload_n (i := 0) (pc := 514) dL_law_514 rfl rfl ?_
    refine g_iload (pc := 515) dL_law_515 rfl ?_
    refine g_iconst (pc := 517) dL_law_517 ?_
    refine g_iadd (pc := 518) dL_law_518 ?_
    refine g_sld (pc := 519) rfl dL_law_519 (by omega) ?_
    refine g_aload_n (i := 0) (pc := 520) dL_law_520 rfl rfl ?_
    refine g_iload (pc := 521) dL_law_521 rfl ?_
    refine g_iconst (pc := 523) dL_law_523 ?_
    refine g_iadd (pc := 524) dL_law_524 ?_
    refine g_sld (pc := 525) rfl dL_law_525 (by omega) ?_
    refine g_v3 (pc := 526) okV_X4_group rfl l_L_119 dL_law_526 c_79 hc_4 (by decide) (by decide) (Nat.le_of_ble_eq_true rfl) (nr_0 (v' := grv (k_ms κ 0) (f (i + 1).toNat) (f (i + 2).toNat) (f (i + 3).toNat)) (t_X4_group (κ := (κ)) (ν := ν) (o := (va_up o 0 (wr (grv (k_ms κ 0) (f (i + 1).toNat) (f (i + 2).toNat) (f (i + 3).toNat))))) (al := false) hN (hf _) (hf _) (hf _)) (by rw [e0]; exact hc) (by rw [e0])) (by simp only [c_len]) ?_
    simp only [Option.toList, List.cons_append, List.nil_append]
    refine g_istore (pc := 529) dL_law_529 (by decide) rfl ?_
    simp only [List.set_cons_succ, List.set_cons_zero]
    refine g_aload_n (i := 2) (pc := 531) dL_law_531 rfl rfl ?_
    refine g_v0 (pc := 532) okV_X4_thrown rfl l_L_91 dL_law_532 c_79 hc_4 (by decide) (by decide) (Nat.le_of_ble_eq_true rfl) (t_X4_thrown (ν := n_setth (ν) 0)) rfl ?_
    simp only [Option.toList, List.cons_append, List.nil_append]
    refine G.eqS (v' := vI (0)) rfl ?_
    refine g_iload (pc := 535) dL_law_535 rfl ?_
    refine g_c_eq (tgt := 542) (pc := 537) dL_law_537 (by omega) (by decide) (fun _ => ?_) (fun c9 => absurd hc.symm c9)
    refine g_iload (pc := 542) dL_law_542 rfl ?_
    refine g_z_ne (tgt := 559) (pc := 544) dL_law_544 (by omega) (by decide) (fun c9 => absurd hc c9) (fun _ => ?_)
    refine g_aload_n (i := 3) (pc := 547) dL_law_547 rfl rfl ?_
    refine g_iconst (pc := 548) dL_law_548 ?_
    refine g_lald (pc := 549) dL_law_549 c_87 (by decide) ?_
    refine G.eqS (v' := vL (wr (grv (k_ms κ 0) (f (i + 1).toNat) (f (i + 2).toNat) (f (i + 3).toNat)))) (congrArg (fun z => vL z) (up_s _ _ _)) ?_
    refine g_iload (pc := 550) dL_law_550 rfl ?_
    refine g_wr ?_
    have hw9 := wr_rng (grv (k_ms κ 0) (f (i + 1).toNat) (f (i + 2).toNat) (f (i + 3).toNat))
    refine g_i2l (pc := 552) dL_law_552 hw9 ?_
    refine g_lcmp (pc := 553) dL_law_553 (by omega) (by omega) ?_
    refine g_z_eq (tgt := 559) (pc := 554) dL_law_554 (by rw [bcmp_0]; decide) (by decide) (fun _ => ?_) (fun c9 => absurd (bcmp_0 _) c9)
    refine g_goto (tgt := 1561) (pc := 559) dL_law_559 (by decide) ?_
    refine G.drop 6 (G.drop 5 ?_)
    simp only [List.set_cons_succ, List.set_cons_zero]
    exact hB _ _ _ (hK) (rel_th (hR))
  · refine G.eqw (w' := cW κ (dE ν) o) (by rw [if_neg hc, if_neg hc]) ?_
    refine g_aload_n (i := 2) (pc := 507) dL_law_507 rfl rfl ?_
    refine g_aload_n (i := 0) (pc := 508) dL_law_508 rfl rfl ?_
    refine g_iload (pc := 509) dL_law_509 rfl ?_
    refine g_iconst (pc := 511) dL_law_511 ?_
    refine g_iadd (pc := 512) dL_law_512 ?_
    refine g_sld (pc := 513) rfl dL_law_513 (by omega) ?_
    refine g_aload_n (i := 0) (pc := 514) dL_law_514 rfl rfl ?_
    refine g_iload (pc := 515) dL_law_515 rfl ?_
    refine g_iconst (pc := 517) dL_law_517 ?_
    refine g_iadd (pc := 518) dL_law_518 ?_
    refine g_sld (pc := 519) rfl dL_law_519 (by omega) ?_
    refine g_aload_n (i := 0) (pc := 520) dL_law_520 rfl rfl ?_
    refine g_iload (pc := 521) dL_law_521 rfl ?_
    refine g_iconst (pc := 523) dL_law_523 ?_
    refine g_iadd (pc := 524) dL_law_524 ?_
    refine g_sld (pc := 525) rfl dL_law_525 (by omega) ?_
    refine g_v3 (pc := 526) okV_X4_group rfl l_L_119 dL_law_526 c_79 hc_4 (by decide) (by decide) (Nat.le_of_ble_eq_true rfl) (nr_1 (k := xc_gr (k_ms κ 0) (f (i + 1).toNat) (f (i + 2).toNat) (f (i + 3).toNat)) (t_X4_group (κ := κ) (ν := ν) (o := o) (al := false) hN (hf _) (hf _) (hf _)) (by rw [e0]) hc) (by simp only [c_len]) ?_
    simp only [Option.toList, List.cons_append, List.nil_append]
    refine g_istore (pc := 529) dL_law_529 (by decide) rfl ?_
    simp only [List.set_cons_succ, List.set_cons_zero]
    refine g_aload_n (i := 2) (pc := 531) dL_law_531 rfl rfl ?_
    refine g_v0 (pc := 532) okV_X4_thrown rfl l_L_91 dL_law_532 c_79 hc_4 (by decide) (by decide) (Nat.le_of_ble_eq_true rfl) (t_X4_thrown (ν := n_setth ν (xc_gr (k_ms κ 0) (f (i + 1).toNat) (f (i + 2).toNat) (f (i + 3).toNat)))) rfl ?_
    simp only [Option.toList, List.cons_append, List.nil_append]
    refine G.eqS (v' := vI (xc_gr (k_ms κ 0) (f (i + 1).toNat) (f (i + 2).toNat) (f (i + 3).toNat))) rfl ?_
    refine g_iload (pc := 535) dL_law_535 rfl ?_
    refine g_c_eq (tgt := 542) (pc := 537) dL_law_537 (by omega) (by decide) (fun _ => ?_) (fun c9 => absurd rfl c9)
    refine g_iload (pc := 542) dL_law_542 rfl ?_
    refine g_z_ne (tgt := 559) (pc := 544) dL_law_544 (by omega) (by decide) (fun _ => ?_) (fun c9 => absurd c9 hc)
    refine g_goto (tgt := 1561) (pc := 559) dL_law_559 (by decide) ?_
    refine G.drop 6 (G.drop 5 ?_)
    simp only [List.set_cons_succ, List.set_cons_zero]
    exact hB _ _ _ (hK) (rel_th (hR))
set_option maxRecDepth 20000 in
set_option maxHeartbeats 400000 in
theorem lc_8 {n : Nat} {f : Nat → Int} {i : Int} {κ : KT} {ν : NT} {o : Nat → Int} {bc bs : Nat} {Q : (Option MV) ⊕ String → List MC → Prop} (hf : ∀ j, -2147483648 ≤ f j ∧ f j < 2147483648) (h_i : 0 ≤ i ∧ i + 3 < n ∧ n < 2147483648) (hK : KInv κ) (hR : Rel κ ν) (hB : LB n f i bc bs Q) : G M_L_law (some (n, f)) false false 562 [some (vR SCR), some (vR 0), some (vR 79), some (vR 87), some (vI i), none, none] [] (cW κ (dE ν) o) (bc + 2) (bs + 12) Q := by
  have hN := ninv_of hK hR
  have e0 : n_st ν = k_ms κ 0 := hR.1
  refine g_aload_n (i := 1) (pc := 562) dL_law_562 rfl rfl ?_
  refine g_aload_n (i := 0) (pc := 563) dL_law_563 rfl rfl ?_
  refine g_iload (pc := 564) dL_law_564 rfl ?_
  refine g_iconst (pc := 566) dL_law_566 ?_
  refine g_iadd (pc := 567) dL_law_567 ?_
  refine g_sld (pc := 568) rfl dL_law_568 (by omega) ?_
  refine g_aload_n (i := 0) (pc := 569) dL_law_569 rfl rfl ?_
  refine g_iload (pc := 570) dL_law_570 rfl ?_
  refine g_iconst (pc := 572) dL_law_572 ?_
  refine g_iadd (pc := 573) dL_law_573 ?_
  refine g_sld (pc := 574) rfl dL_law_574 (by omega) ?_
  refine g_aload_n (i := 0) (pc := 575) dL_law_575 rfl rfl ?_
  refine g_iload (pc := 576) dL_law_576 rfl ?_
  refine g_iconst (pc := 578) dL_law_578 ?_
  refine g_iadd (pc := 579) dL_law_579 ?_
  refine g_sld (pc := 580) rfl dL_law_580 (by omega) ?_
  refine g_aload_n (i := 3) (pc := 581) dL_law_581 rfl rfl ?_
  refine g_callSX (pc := 582) (as := [vR 0, vI (f (i + 1).toNat), vI (f (i + 2).toNat), vI (f (i + 3).toNat), vR 87]) (bc' := 2) (bs' := 12) okS_L_write (by decide) l_L_120 dL_law_582 rfl (Nat.le_of_ble_eq_true rfl) (by decide) (Nat.le_of_ble_eq_true rfl) ⟨by omega, by omega⟩ (t_L_write (κ := κ) (δ := dE ν) (o := o) hK (hf _) (hf _) (hf _)) (fun h => nomatch h) (fun r w' h => ?_) (fun E w' h => nomatch h.1)
  obtain ⟨h1, h2⟩ := h
  obtain rfl := Sum.inl.inj h1
  subst h2
  simp only [Option.toList, List.cons_append, List.nil_append]
  refine G.bud (bc := bc) (bs := bs) ?_ (by omega) (by omega)
  have hr9 : 0 ≤ xc_wr (k_ms κ 0) (f (i + 1).toNat) (f (i + 2).toNat) (f (i + 3).toNat) ∧ xc_wr (k_ms κ 0) (f (i + 1).toNat) (f (i + 2).toNat) (f (i + 3).toNat) ≤ 3 := by unfold xc_wr; (repeat' split) <;> omega
  refine g_istore (pc := 585) dL_law_585 (by decide) rfl ?_
  simp only [List.set_cons_succ, List.set_cons_zero]
  by_cases hc : xc_wr (k_ms κ 0) (f (i + 1).toNat) (f (i + 2).toNat) (f (i + 3).toNat) = 0
  · refine G.eqw (w' := cW (k_setms (k_rem κ) 0 (s_wri (k_ms κ 0) (f (i + 1).toNat) (f (i + 2).toNat) (f (i + 3).toNat))) (dE ν) (va_up o 0 (wr (oc (k_ms κ 0) (f (i + 1).toNat) (f (i + 2).toNat))))) (by rw [if_pos hc, if_pos hc]) ?_
    have hq : (0 ≤ (f (i + 3).toNat) ∧ (f (i + 3).toNat) < 100) ∧ oc (k_ms κ 0) (f (i + 1).toNat) (f (i + 2).toNat) ≠ -1 := by
      unfold xc_wr at hc
      (repeat' split at hc) <;> omega
    refine g_aload_n (i := 2) (pc := 587) dL_law_587 rfl rfl ?_
    refine g_aload_n (i := 0) (pc := 588) dL_law_588 rfl rfl ?_
    refine g_iload (pc := 589) dL_law_589 rfl ?_
    refine g_iconst (pc := 591) dL_law_591 ?_
    refine g_iadd (pc := 592) dL_law_592 ?_
    refine g_sld (pc := 593) rfl dL_law_593 (by omega) ?_
    refine g_aload_n (i := 0) (pc := 594) dL_law_594 rfl rfl ?_
    refine g_iload (pc := 595) dL_law_595 rfl ?_
    refine g_iconst (pc := 597) dL_law_597 ?_
    refine g_iadd (pc := 598) dL_law_598 ?_
    refine g_sld (pc := 599) rfl dL_law_599 (by omega) ?_
    refine g_aload_n (i := 0) (pc := 600) dL_law_600 rfl rfl ?_
    refine g_iload (pc := 601) dL_law_601 rfl ?_
    refine g_iconst (pc := 603) dL_law_603 ?_
    refine g_iadd (pc := 604) dL_law_604 ?_
    refine g_sld (pc := 605) rfl dL_law_605 (by omega) ?_
    refine g_v3 (pc := 606) okV_X4_write rfl l_L_122 dL_law_606 c_79 hc_4 (by decide) (by decide) (Nat.le_of_ble_eq_true rfl) (nr_0 (v' := oc (k_ms κ 0) (f (i + 1).toNat) (f (i + 2).toNat)) (t_X4_write (κ := (k_setms (k_rem κ) 0 (s_wri (k_ms κ 0) (f (i + 1).toNat) (f (i + 2).toNat) (f (i + 3).toNat)))) (ν := ν) (o := (va_up o 0 (wr (oc (k_ms κ 0) (f (i + 1).toNat) (f (i + 2).toNat))))) (al := false) hN (hf _) (hf _) (hf _)) (by rw [e0]; exact hc) (by rw [e0])) (by simp only [c_len]) ?_
    simp only [Option.toList, List.cons_append, List.nil_append]
    refine g_istore (pc := 609) dL_law_609 (by decide) rfl ?_
    simp only [List.set_cons_succ, List.set_cons_zero]
    refine g_aload_n (i := 2) (pc := 611) dL_law_611 rfl rfl ?_
    refine g_v0 (pc := 612) okV_X4_thrown rfl l_L_91 dL_law_612 c_79 hc_4 (by decide) (by decide) (Nat.le_of_ble_eq_true rfl) (t_X4_thrown (ν := n_setth (n_setst (n_rem ν) (s_wri (n_st ν) (f (i + 1).toNat) (f (i + 2).toNat) (f (i + 3).toNat))) 0)) rfl ?_
    simp only [Option.toList, List.cons_append, List.nil_append]
    refine G.eqS (v' := vI (0)) rfl ?_
    refine g_iload (pc := 615) dL_law_615 rfl ?_
    refine g_c_eq (tgt := 622) (pc := 617) dL_law_617 (by omega) (by decide) (fun _ => ?_) (fun c9 => absurd hc.symm c9)
    refine g_iload (pc := 622) dL_law_622 rfl ?_
    refine g_z_ne (tgt := 639) (pc := 624) dL_law_624 (by omega) (by decide) (fun c9 => absurd hc c9) (fun _ => ?_)
    refine g_aload_n (i := 3) (pc := 627) dL_law_627 rfl rfl ?_
    refine g_iconst (pc := 628) dL_law_628 ?_
    refine g_lald (pc := 629) dL_law_629 c_87 (by decide) ?_
    refine G.eqS (v' := vL (wr (oc (k_ms κ 0) (f (i + 1).toNat) (f (i + 2).toNat)))) (congrArg (fun z => vL z) (up_s _ _ _)) ?_
    refine g_iload (pc := 630) dL_law_630 rfl ?_
    refine g_wr ?_
    have hw9 := wr_rng (oc (k_ms κ 0) (f (i + 1).toNat) (f (i + 2).toNat))
    refine g_i2l (pc := 632) dL_law_632 hw9 ?_
    refine g_lcmp (pc := 633) dL_law_633 (by omega) (by omega) ?_
    refine g_z_eq (tgt := 639) (pc := 634) dL_law_634 (by rw [bcmp_0]; decide) (by decide) (fun _ => ?_) (fun c9 => absurd (bcmp_0 _) c9)
    refine g_goto (tgt := 1561) (pc := 639) dL_law_639 (by decide) ?_
    refine G.drop 6 (G.drop 5 ?_)
    simp only [List.set_cons_succ, List.set_cons_zero]
    exact hB _ _ _ (kinv_ms (kinv_rem hK) (inv_wri (hK.2.2.1 0) hq.2 hq.1)) (rel_th ((by rw [e0]; exact rel_act hK hR)))
  · refine G.eqw (w' := cW κ (dE ν) o) (by rw [if_neg hc, if_neg hc]) ?_
    refine g_aload_n (i := 2) (pc := 587) dL_law_587 rfl rfl ?_
    refine g_aload_n (i := 0) (pc := 588) dL_law_588 rfl rfl ?_
    refine g_iload (pc := 589) dL_law_589 rfl ?_
    refine g_iconst (pc := 591) dL_law_591 ?_
    refine g_iadd (pc := 592) dL_law_592 ?_
    refine g_sld (pc := 593) rfl dL_law_593 (by omega) ?_
    refine g_aload_n (i := 0) (pc := 594) dL_law_594 rfl rfl ?_
    refine g_iload (pc := 595) dL_law_595 rfl ?_
    refine g_iconst (pc := 597) dL_law_597 ?_
    refine g_iadd (pc := 598) dL_law_598 ?_
    refine g_sld (pc := 599) rfl dL_law_599 (by omega) ?_
    refine g_aload_n (i := 0) (pc := 600) dL_law_600 rfl rfl ?_
    refine g_iload (pc := 601) dL_law_601 rfl ?_
    refine g_iconst (pc := 603) dL_law_603 ?_
    refine g_iadd (pc := 604) dL_law_604 ?_
    refine g_sld (pc := 605) rfl dL_law_605 (by omega) ?_
    refine g_v3 (pc := 606) okV_X4_write rfl l_L_122 dL_law_606 c_79 hc_4 (by decide) (by decide) (Nat.le_of_ble_eq_true rfl) (nr_1 (k := xc_wr (k_ms κ 0) (f (i + 1).toNat) (f (i + 2).toNat) (f (i + 3).toNat)) (t_X4_write (κ := κ) (ν := ν) (o := o) (al := false) hN (hf _) (hf _) (hf _)) (by rw [e0]) hc) (by simp only [c_len]) ?_
    simp only [Option.toList, List.cons_append, List.nil_append]
    refine g_istore (pc := 609) dL_law_609 (by decide) rfl ?_
    simp only [List.set_cons_succ, List.set_cons_zero]
    refine g_aload_n (i := 2) (pc := 611) dL_law_611 rfl rfl ?_
    refine g_v0 (pc := 612) okV_X4_thrown rfl l_L_91 dL_law_612 c_79 hc_4 (by decide) (by decide) (Nat.le_of_ble_eq_true rfl) (t_X4_thrown (ν := n_setth ν (xc_wr (k_ms κ 0) (f (i + 1).toNat) (f (i + 2).toNat) (f (i + 3).toNat)))) rfl ?_
    simp only [Option.toList, List.cons_append, List.nil_append]
    refine G.eqS (v' := vI (xc_wr (k_ms κ 0) (f (i + 1).toNat) (f (i + 2).toNat) (f (i + 3).toNat))) rfl ?_
    refine g_iload (pc := 615) dL_law_615 rfl ?_
    refine g_c_eq (tgt := 622) (pc := 617) dL_law_617 (by omega) (by decide) (fun _ => ?_) (fun c9 => absurd rfl c9)
    refine g_iload (pc := 622) dL_law_622 rfl ?_
    refine g_z_ne (tgt := 639) (pc := 624) dL_law_624 (by omega) (by decide) (fun _ => ?_) (fun c9 => absurd c9 hc)
    refine g_goto (tgt := 1561) (pc := 639) dL_law_639 (by decide) ?_
    refine G.drop 6 (G.drop 5 ?_)
    simp only [List.set_cons_succ, List.set_cons_zero]
    exact hB _ _ _ (hK) (rel_th (hR))
set_option maxRecDepth 20000 in
set_option maxHeartbeats 400000 in
theorem lc_9 {n : Nat} {f : Nat → Int} {i : Int} {κ : KT} {ν : NT} {o : Nat → Int} {bc bs : Nat} {Q : (Option MV) ⊕ String → List MC → Prop} (hf : ∀ j, -2147483648 ≤ f j ∧ f j < 2147483648) (h_i : 0 ≤ i ∧ i + 3 < n ∧ n < 2147483648) (hK : KInv κ) (hR : Rel κ ν) (hB : LB n f i bc bs Q) : G M_L_law (some (n, f)) false false 642 [some (vR SCR), some (vR 0), some (vR 79), some (vR 87), some (vI i), none, none] [] (cW κ (dE ν) o) (bc + 2) (bs + 12) Q := by
  have hN := ninv_of hK hR
  have e0 : n_st ν = k_ms κ 0 := hR.1
  refine g_aload_n (i := 1) (pc := 642) dL_law_642 rfl rfl ?_
  refine g_aload_n (i := 0) (pc := 643) dL_law_643 rfl rfl ?_
  refine g_iload (pc := 644) dL_law_644 rfl ?_
  refine g_iconst (pc := 646) dL_law_646 ?_
  refine g_iadd (pc := 647) dL_law_647 ?_
  refine g_sld (pc := 648) rfl dL_law_648 (by omega) ?_
  refine g_aload_n (i := 3) (pc := 649) dL_law_649 rfl rfl ?_
  refine g_callSX (pc := 650) (as := [vR 0, vI (f (i + 1).toNat), vR 87]) (bc' := 2) (bs' := 12) okS_L_fork (by decide) l_L_123 dL_law_650 rfl (Nat.le_of_ble_eq_true rfl) (by decide) (Nat.le_of_ble_eq_true rfl) ⟨by omega, by omega⟩ (t_L_fork (κ := κ) (δ := dE ν) (o := o) hK (hf _)) (fun h => nomatch h) (fun r w' h => ?_) (fun E w' h => nomatch h.1)
  obtain ⟨h1, h2⟩ := h
  obtain rfl := Sum.inl.inj h1
  subst h2
  simp only [Option.toList, List.cons_append, List.nil_append]
  refine G.bud (bc := bc) (bs := bs) ?_ (by omega) (by omega)
  have hr9 : 0 ≤ xc_fk (k_ms κ 0) (f (i + 1).toNat) ∧ xc_fk (k_ms κ 0) (f (i + 1).toNat) ≤ 2 := by unfold xc_fk; (repeat' split) <;> omega
  refine g_istore (pc := 653) dL_law_653 (by decide) rfl ?_
  simp only [List.set_cons_succ, List.set_cons_zero]
  by_cases hc : xc_fk (k_ms κ 0) (f (i + 1).toNat) = 0
  · refine G.eqw (w' := cW (k_setms (k_rem κ) 0 (s_for (k_ms κ 0) (f (i + 1).toNat))) (dE ν) (va_up o 0 (wr (lup (k_ms κ 0))))) (by rw [if_pos hc, if_pos hc]) ?_
    have hq : lup (k_ms κ 0) ≠ -1 := by
      unfold xc_fk at hc
      (repeat' split at hc) <;> omega
    refine g_aload_n (i := 2) (pc := 655) dL_law_655 rfl rfl ?_
    refine g_aload_n (i := 0) (pc := 656) dL_law_656 rfl rfl ?_
    refine g_iload (pc := 657) dL_law_657 rfl ?_
    refine g_iconst (pc := 659) dL_law_659 ?_
    refine g_iadd (pc := 660) dL_law_660 ?_
    refine g_sld (pc := 661) rfl dL_law_661 (by omega) ?_
    refine g_v1 (pc := 662) okV_X4_fork rfl l_L_125 dL_law_662 c_79 hc_4 (by decide) (by decide) (Nat.le_of_ble_eq_true rfl) (nr_0 (v' := lup (k_ms κ 0)) (t_X4_fork (κ := (k_setms (k_rem κ) 0 (s_for (k_ms κ 0) (f (i + 1).toNat)))) (ν := ν) (o := (va_up o 0 (wr (lup (k_ms κ 0))))) (al := false) hN (hf _)) (by rw [e0]; exact hc) (by rw [e0])) (by simp only [c_len]) ?_
    simp only [Option.toList, List.cons_append, List.nil_append]
    refine g_istore (pc := 665) dL_law_665 (by decide) rfl ?_
    simp only [List.set_cons_succ, List.set_cons_zero]
    refine g_aload_n (i := 2) (pc := 667) dL_law_667 rfl rfl ?_
    refine g_v0 (pc := 668) okV_X4_thrown rfl l_L_91 dL_law_668 c_79 hc_4 (by decide) (by decide) (Nat.le_of_ble_eq_true rfl) (t_X4_thrown (ν := n_setth (n_setst (n_rem ν) (s_for (n_st ν) (f (i + 1).toNat))) 0)) rfl ?_
    simp only [Option.toList, List.cons_append, List.nil_append]
    refine G.eqS (v' := vI (0)) rfl ?_
    refine g_iload (pc := 671) dL_law_671 rfl ?_
    refine g_c_eq (tgt := 678) (pc := 673) dL_law_673 (by omega) (by decide) (fun _ => ?_) (fun c9 => absurd hc.symm c9)
    refine g_iload (pc := 678) dL_law_678 rfl ?_
    refine g_z_ne (tgt := 695) (pc := 680) dL_law_680 (by omega) (by decide) (fun c9 => absurd hc c9) (fun _ => ?_)
    refine g_aload_n (i := 3) (pc := 683) dL_law_683 rfl rfl ?_
    refine g_iconst (pc := 684) dL_law_684 ?_
    refine g_lald (pc := 685) dL_law_685 c_87 (by decide) ?_
    refine G.eqS (v' := vL (wr (lup (k_ms κ 0)))) (congrArg (fun z => vL z) (up_s _ _ _)) ?_
    refine g_iload (pc := 686) dL_law_686 rfl ?_
    refine g_wr ?_
    have hw9 := wr_rng (lup (k_ms κ 0))
    refine g_i2l (pc := 688) dL_law_688 hw9 ?_
    refine g_lcmp (pc := 689) dL_law_689 (by omega) (by omega) ?_
    refine g_z_eq (tgt := 695) (pc := 690) dL_law_690 (by rw [bcmp_0]; decide) (by decide) (fun _ => ?_) (fun c9 => absurd (bcmp_0 _) c9)
    refine g_goto (tgt := 1561) (pc := 695) dL_law_695 (by decide) ?_
    refine G.drop 6 (G.drop 5 ?_)
    simp only [List.set_cons_succ, List.set_cons_zero]
    exact hB _ _ _ (kinv_ms (kinv_rem hK) (inv_for (hK.2.2.1 0) hq)) (rel_th ((by rw [e0]; exact rel_act hK hR)))
  · refine G.eqw (w' := cW κ (dE ν) o) (by rw [if_neg hc, if_neg hc]) ?_
    refine g_aload_n (i := 2) (pc := 655) dL_law_655 rfl rfl ?_
    refine g_aload_n (i := 0) (pc := 656) dL_law_656 rfl rfl ?_
    refine g_iload (pc := 657) dL_law_657 rfl ?_
    refine g_iconst (pc := 659) dL_law_659 ?_
    refine g_iadd (pc := 660) dL_law_660 ?_
    refine g_sld (pc := 661) rfl dL_law_661 (by omega) ?_
    refine g_v1 (pc := 662) okV_X4_fork rfl l_L_125 dL_law_662 c_79 hc_4 (by decide) (by decide) (Nat.le_of_ble_eq_true rfl) (nr_1 (k := xc_fk (k_ms κ 0) (f (i + 1).toNat)) (t_X4_fork (κ := κ) (ν := ν) (o := o) (al := false) hN (hf _)) (by rw [e0]) hc) (by simp only [c_len]) ?_
    simp only [Option.toList, List.cons_append, List.nil_append]
    refine g_istore (pc := 665) dL_law_665 (by decide) rfl ?_
    simp only [List.set_cons_succ, List.set_cons_zero]
    refine g_aload_n (i := 2) (pc := 667) dL_law_667 rfl rfl ?_
    refine g_v0 (pc := 668) okV_X4_thrown rfl l_L_91 dL_law_668 c_79 hc_4 (by decide) (by decide) (Nat.le_of_ble_eq_true rfl) (t_X4_thrown (ν := n_setth ν (xc_fk (k_ms κ 0) (f (i + 1).toNat)))) rfl ?_
    simp only [Option.toList, List.cons_append, List.nil_append]
    refine G.eqS (v' := vI (xc_fk (k_ms κ 0) (f (i + 1).toNat))) rfl ?_
    refine g_iload (pc := 671) dL_law_671 rfl ?_
    refine g_c_eq (tgt := 678) (pc := 673) dL_law_673 (by omega) (by decide) (fun _ => ?_) (fun c9 => absurd rfl c9)
    refine g_iload (pc := 678) dL_law_678 rfl ?_
    refine g_z_ne (tgt := 695) (pc := 680) dL_law_680 (by omega) (by decide) (fun _ => ?_) (fun c9 => absurd c9 hc)
    refine g_goto (tgt := 1561) (pc := 695) dL_law_695 (by decide) ?_
    refine G.drop 6 (G.drop 5 ?_)
    simp only [List.set_cons_succ, List.set_cons_zero]
    exact hB _ _ _ (hK) (rel_th (hR))
set_option maxRecDepth 20000 in
set_option maxHeartbeats 400000 in
theorem lc_10 {n : Nat} {f : Nat → Int} {i : Int} {κ : KT} {ν : NT} {o : Nat → Int} {bc bs : Nat} {Q : (Option MV) ⊕ String → List MC → Prop} (hf : ∀ j, -2147483648 ≤ f j ∧ f j < 2147483648) (h_i : 0 ≤ i ∧ i + 3 < n ∧ n < 2147483648) (hK : KInv κ) (hR : Rel κ ν) (hB : LB n f i bc bs Q) : G M_L_law (some (n, f)) false false 698 [some (vR SCR), some (vR 0), some (vR 79), some (vR 87), some (vI i), none, none] [] (cW κ (dE ν) o) (bc + 2) (bs + 12) Q := by
  have hN := ninv_of hK hR
  have e0 : n_st ν = k_ms κ 0 := hR.1
  refine g_aload_n (i := 1) (pc := 698) dL_law_698 rfl rfl ?_
  refine g_aload_n (i := 0) (pc := 699) dL_law_699 rfl rfl ?_
  refine g_iload (pc := 700) dL_law_700 rfl ?_
  refine g_iconst (pc := 702) dL_law_702 ?_
  refine g_iadd (pc := 703) dL_law_703 ?_
  refine g_sld (pc := 704) rfl dL_law_704 (by omega) ?_
  refine g_aload_n (i := 3) (pc := 705) dL_law_705 rfl rfl ?_
  refine g_callSX (pc := 706) (as := [vR 0, vI (f (i + 1).toNat), vR 87]) (bc' := 2) (bs' := 12) okS_L_exit (by decide) l_L_126 dL_law_706 rfl (Nat.le_of_ble_eq_true rfl) (by decide) (Nat.le_of_ble_eq_true rfl) ⟨by omega, by omega⟩ (t_L_exit (κ := κ) (δ := dE ν) (o := o) hK (hf _)) (fun h => nomatch h) (fun r w' h => ?_) (fun E w' h => nomatch h.1)
  obtain ⟨h1, h2⟩ := h
  obtain rfl := Sum.inl.inj h1
  subst h2
  simp only [Option.toList, List.cons_append, List.nil_append]
  refine G.bud (bc := bc) (bs := bs) ?_ (by omega) (by omega)
  have hr9 : 0 ≤ xc_ex (k_ms κ 0) (f (i + 1).toNat) ∧ xc_ex (k_ms κ 0) (f (i + 1).toNat) ≤ 2 := by unfold xc_ex; (repeat' split) <;> omega
  refine g_istore (pc := 709) dL_law_709 (by decide) rfl ?_
  simp only [List.set_cons_succ, List.set_cons_zero]
  by_cases hc : xc_ex (k_ms κ 0) (f (i + 1).toNat) = 0
  · refine G.eqw (w' := cW (k_setms (k_rem κ) 0 (s_end (k_ms κ 0) (f (i + 1).toNat))) (dE ν) (va_up o 0 (wr (nff (s_le (k_ms κ 0) (f (i + 1).toNat) 16) - nff (k_ms κ 0))))) (by rw [if_pos hc, if_pos hc]) ?_
    have hq := canE_p (xc_ex0.mp hc)
    refine g_aload_n (i := 2) (pc := 711) dL_law_711 rfl rfl ?_
    refine g_aload_n (i := 0) (pc := 712) dL_law_712 rfl rfl ?_
    refine g_iload (pc := 713) dL_law_713 rfl ?_
    refine g_iconst (pc := 715) dL_law_715 ?_
    refine g_iadd (pc := 716) dL_law_716 ?_
    refine g_sld (pc := 717) rfl dL_law_717 (by omega) ?_
    refine g_v1 (pc := 718) okV_X4_exit rfl l_L_128 dL_law_718 c_79 hc_4 (by decide) (by decide) (Nat.le_of_ble_eq_true rfl) (nr_0 (v' := nff (s_le (k_ms κ 0) (f (i + 1).toNat) 16) - nff (k_ms κ 0)) (t_X4_exit (κ := (k_setms (k_rem κ) 0 (s_end (k_ms κ 0) (f (i + 1).toNat)))) (ν := ν) (o := (va_up o 0 (wr (nff (s_le (k_ms κ 0) (f (i + 1).toNat) 16) - nff (k_ms κ 0))))) (al := false) hN (hf _)) (by rw [e0]; exact hc) (by rw [e0])) (by simp only [c_len]) ?_
    simp only [Option.toList, List.cons_append, List.nil_append]
    refine g_istore (pc := 721) dL_law_721 (by decide) rfl ?_
    simp only [List.set_cons_succ, List.set_cons_zero]
    refine g_aload_n (i := 2) (pc := 723) dL_law_723 rfl rfl ?_
    refine g_v0 (pc := 724) okV_X4_thrown rfl l_L_91 dL_law_724 c_79 hc_4 (by decide) (by decide) (Nat.le_of_ble_eq_true rfl) (t_X4_thrown (ν := n_setth (n_setst (n_rem ν) (s_end (n_st ν) (f (i + 1).toNat))) 0)) rfl ?_
    simp only [Option.toList, List.cons_append, List.nil_append]
    refine G.eqS (v' := vI (0)) rfl ?_
    refine g_iload (pc := 727) dL_law_727 rfl ?_
    refine g_c_eq (tgt := 734) (pc := 729) dL_law_729 (by omega) (by decide) (fun _ => ?_) (fun c9 => absurd hc.symm c9)
    refine g_iload (pc := 734) dL_law_734 rfl ?_
    refine g_z_ne (tgt := 751) (pc := 736) dL_law_736 (by omega) (by decide) (fun c9 => absurd hc c9) (fun _ => ?_)
    refine g_aload_n (i := 3) (pc := 739) dL_law_739 rfl rfl ?_
    refine g_iconst (pc := 740) dL_law_740 ?_
    refine g_lald (pc := 741) dL_law_741 c_87 (by decide) ?_
    refine G.eqS (v' := vL (wr (nff (s_le (k_ms κ 0) (f (i + 1).toNat) 16) - nff (k_ms κ 0)))) (congrArg (fun z => vL z) (up_s _ _ _)) ?_
    refine g_iload (pc := 742) dL_law_742 rfl ?_
    refine g_wr ?_
    have hw9 := wr_rng (nff (s_le (k_ms κ 0) (f (i + 1).toNat) 16) - nff (k_ms κ 0))
    refine g_i2l (pc := 744) dL_law_744 hw9 ?_
    refine g_lcmp (pc := 745) dL_law_745 (by omega) (by omega) ?_
    refine g_z_eq (tgt := 751) (pc := 746) dL_law_746 (by rw [bcmp_0]; decide) (by decide) (fun _ => ?_) (fun c9 => absurd (bcmp_0 _) c9)
    refine g_goto (tgt := 1561) (pc := 751) dL_law_751 (by decide) ?_
    refine G.drop 6 (G.drop 5 ?_)
    simp only [List.set_cons_succ, List.set_cons_zero]
    exact hB _ _ _ (kinv_ms (kinv_rem hK) (inv_end (hK.2.2.1 0) hq)) (rel_th ((by rw [e0]; exact rel_act hK hR)))
  · refine G.eqw (w' := cW κ (dE ν) o) (by rw [if_neg hc, if_neg hc]) ?_
    refine g_aload_n (i := 2) (pc := 711) dL_law_711 rfl rfl ?_
    refine g_aload_n (i := 0) (pc := 712) dL_law_712 rfl rfl ?_
    refine g_iload (pc := 713) dL_law_713 rfl ?_
    refine g_iconst (pc := 715) dL_law_715 ?_
    refine g_iadd (pc := 716) dL_law_716 ?_
    refine g_sld (pc := 717) rfl dL_law_717 (by omega) ?_
    refine g_v1 (pc := 718) okV_X4_exit rfl l_L_128 dL_law_718 c_79 hc_4 (by decide) (by decide) (Nat.le_of_ble_eq_true rfl) (nr_1 (k := xc_ex (k_ms κ 0) (f (i + 1).toNat)) (t_X4_exit (κ := κ) (ν := ν) (o := o) (al := false) hN (hf _)) (by rw [e0]) hc) (by simp only [c_len]) ?_
    simp only [Option.toList, List.cons_append, List.nil_append]
    refine g_istore (pc := 721) dL_law_721 (by decide) rfl ?_
    simp only [List.set_cons_succ, List.set_cons_zero]
    refine g_aload_n (i := 2) (pc := 723) dL_law_723 rfl rfl ?_
    refine g_v0 (pc := 724) okV_X4_thrown rfl l_L_91 dL_law_724 c_79 hc_4 (by decide) (by decide) (Nat.le_of_ble_eq_true rfl) (t_X4_thrown (ν := n_setth ν (xc_ex (k_ms κ 0) (f (i + 1).toNat)))) rfl ?_
    simp only [Option.toList, List.cons_append, List.nil_append]
    refine G.eqS (v' := vI (xc_ex (k_ms κ 0) (f (i + 1).toNat))) rfl ?_
    refine g_iload (pc := 727) dL_law_727 rfl ?_
    refine g_c_eq (tgt := 734) (pc := 729) dL_law_729 (by omega) (by decide) (fun _ => ?_) (fun c9 => absurd rfl c9)
    refine g_iload (pc := 734) dL_law_734 rfl ?_
    refine g_z_ne (tgt := 751) (pc := 736) dL_law_736 (by omega) (by decide) (fun _ => ?_) (fun c9 => absurd c9 hc)
    refine g_goto (tgt := 1561) (pc := 751) dL_law_751 (by decide) ?_
    refine G.drop 6 (G.drop 5 ?_)
    simp only [List.set_cons_succ, List.set_cons_zero]
    exact hB _ _ _ (hK) (rel_th (hR))
set_option maxRecDepth 20000 in
set_option maxHeartbeats 400000 in
theorem lc_11 {n : Nat} {f : Nat → Int} {i : Int} {κ : KT} {ν : NT} {o : Nat → Int} {bc bs : Nat} {Q : (Option MV) ⊕ String → List MC → Prop} (hf : ∀ j, -2147483648 ≤ f j ∧ f j < 2147483648) (h_i : 0 ≤ i ∧ i + 3 < n ∧ n < 2147483648) (hK : KInv κ) (hR : Rel κ ν) (hB : LB n f i bc bs Q) : G M_L_law (some (n, f)) false false 754 [some (vR SCR), some (vR 0), some (vR 79), some (vR 87), some (vI i), none, none] [] (cW κ (dE ν) o) (bc + 2) (bs + 12) Q := by
  have hN := ninv_of hK hR
  have e0 : n_st ν = k_ms κ 0 := hR.1
  refine g_aload_n (i := 1) (pc := 754) dL_law_754 rfl rfl ?_
  refine g_aload_n (i := 0) (pc := 755) dL_law_755 rfl rfl ?_
  refine g_iload (pc := 756) dL_law_756 rfl ?_
  refine g_iconst (pc := 758) dL_law_758 ?_
  refine g_iadd (pc := 759) dL_law_759 ?_
  refine g_sld (pc := 760) rfl dL_law_760 (by omega) ?_
  refine g_aload_n (i := 0) (pc := 761) dL_law_761 rfl rfl ?_
  refine g_iload (pc := 762) dL_law_762 rfl ?_
  refine g_iconst (pc := 764) dL_law_764 ?_
  refine g_iadd (pc := 765) dL_law_765 ?_
  refine g_sld (pc := 766) rfl dL_law_766 (by omega) ?_
  refine g_aload_n (i := 3) (pc := 767) dL_law_767 rfl rfl ?_
  refine g_callSX (pc := 768) (as := [vR 0, vI (f (i + 1).toNat), vI (f (i + 2).toNat), vR 87]) (bc' := 2) (bs' := 12) okS_L_marry (by decide) l_L_129 dL_law_768 rfl (Nat.le_of_ble_eq_true rfl) (by decide) (Nat.le_of_ble_eq_true rfl) ⟨by omega, by omega⟩ (t_L_marry (κ := κ) (δ := dE ν) (o := o) hK (hf _) (hf _)) (fun h => nomatch h) (fun r w' h => ?_) (fun E w' h => nomatch h.1)
  obtain ⟨h1, h2⟩ := h
  obtain rfl := Sum.inl.inj h1
  subst h2
  simp only [Option.toList, List.cons_append, List.nil_append]
  refine G.bud (bc := bc) (bs := bs) ?_ (by omega) (by omega)
  have hr9 : 0 ≤ xc_ma (k_ms κ 0) (f (i + 1).toNat) (f (i + 2).toNat) ∧ xc_ma (k_ms κ 0) (f (i + 1).toNat) (f (i + 2).toNat) ≤ 2 := by unfold xc_ma; (repeat' split) <;> omega
  refine g_istore (pc := 771) dL_law_771 (by decide) rfl ?_
  simp only [List.set_cons_succ, List.set_cons_zero]
  by_cases hc : xc_ma (k_ms κ 0) (f (i + 1).toNat) (f (i + 2).toNat) = 0
  · refine G.eqw (w' := cW (k_setms (k_rem κ) 0 (s_mar (k_ms κ 0) (f (i + 1).toNat) (f (i + 2).toNat))) (dE ν) (va_up o 0 (wr (if ip (k_ms κ 0) (f (i + 1).toNat) (f (i + 2).toNat) = true then 0 else 4)))) (by rw [if_pos hc, if_pos hc]) ?_
    have hq : hasGr (k_ms κ 0) (f (i + 1).toNat) (f (i + 2).toNat) = true ∧ wn (k_ms κ 0) (f (i + 1).toNat) (f (i + 2).toNat) = 0 := by
      unfold xc_ma at hc
      (repeat' split at hc) <;> first | omega | exact ⟨by assumption, by assumption⟩
    have hg := ex_gr hq.1
    refine g_aload_n (i := 2) (pc := 773) dL_law_773 rfl rfl ?_
    refine g_aload_n (i := 0) (pc := 774) dL_law_774 rfl rfl ?_
    refine g_iload (pc := 775) dL_law_775 rfl ?_
    refine g_iconst (pc := 777) dL_law_777 ?_
    refine g_iadd (pc := 778) dL_law_778 ?_
    refine g_sld (pc := 779) rfl dL_law_779 (by omega) ?_
    refine g_aload_n (i := 0) (pc := 780) dL_law_780 rfl rfl ?_
    refine g_iload (pc := 781) dL_law_781 rfl ?_
    refine g_iconst (pc := 783) dL_law_783 ?_
    refine g_iadd (pc := 784) dL_law_784 ?_
    refine g_sld (pc := 785) rfl dL_law_785 (by omega) ?_
    refine g_v2 (pc := 786) okV_X4_marry rfl l_L_131 dL_law_786 c_79 hc_4 (by decide) (by decide) (Nat.le_of_ble_eq_true rfl) (nr_0 (v' := if ip (k_ms κ 0) (f (i + 1).toNat) (f (i + 2).toNat) = true then 0 else 4) (t_X4_marry (κ := (k_setms (k_rem κ) 0 (s_mar (k_ms κ 0) (f (i + 1).toNat) (f (i + 2).toNat)))) (ν := ν) (o := (va_up o 0 (wr (if ip (k_ms κ 0) (f (i + 1).toNat) (f (i + 2).toNat) = true then 0 else 4)))) (al := false) hN (hf _) (hf _)) (by rw [e0]; exact hc) (by rw [e0])) (by simp only [c_len]) ?_
    simp only [Option.toList, List.cons_append, List.nil_append]
    refine g_istore (pc := 789) dL_law_789 (by decide) rfl ?_
    simp only [List.set_cons_succ, List.set_cons_zero]
    refine g_aload_n (i := 2) (pc := 791) dL_law_791 rfl rfl ?_
    refine g_v0 (pc := 792) okV_X4_thrown rfl l_L_91 dL_law_792 c_79 hc_4 (by decide) (by decide) (Nat.le_of_ble_eq_true rfl) (t_X4_thrown (ν := n_setth (n_setst (n_rem ν) (s_mar (n_st ν) (f (i + 1).toNat) (f (i + 2).toNat))) 0)) rfl ?_
    simp only [Option.toList, List.cons_append, List.nil_append]
    refine G.eqS (v' := vI (0)) rfl ?_
    refine g_iload (pc := 795) dL_law_795 rfl ?_
    refine g_c_eq (tgt := 802) (pc := 797) dL_law_797 (by omega) (by decide) (fun _ => ?_) (fun c9 => absurd hc.symm c9)
    refine g_iload (pc := 802) dL_law_802 rfl ?_
    refine g_z_ne (tgt := 819) (pc := 804) dL_law_804 (by omega) (by decide) (fun c9 => absurd hc c9) (fun _ => ?_)
    refine g_aload_n (i := 3) (pc := 807) dL_law_807 rfl rfl ?_
    refine g_iconst (pc := 808) dL_law_808 ?_
    refine g_lald (pc := 809) dL_law_809 c_87 (by decide) ?_
    refine G.eqS (v' := vL (wr (if ip (k_ms κ 0) (f (i + 1).toNat) (f (i + 2).toNat) = true then 0 else 4))) (congrArg (fun z => vL z) (up_s _ _ _)) ?_
    refine g_iload (pc := 810) dL_law_810 rfl ?_
    refine g_wr ?_
    have hw9 := wr_rng (if ip (k_ms κ 0) (f (i + 1).toNat) (f (i + 2).toNat) = true then 0 else 4)
    refine g_i2l (pc := 812) dL_law_812 hw9 ?_
    refine g_lcmp (pc := 813) dL_law_813 (by omega) (by omega) ?_
    refine g_z_eq (tgt := 819) (pc := 814) dL_law_814 (by rw [bcmp_0]; decide) (by decide) (fun _ => ?_) (fun c9 => absurd (bcmp_0 _) c9)
    refine g_goto (tgt := 1561) (pc := 819) dL_law_819 (by decide) ?_
    refine G.drop 6 (G.drop 5 ?_)
    simp only [List.set_cons_succ, List.set_cons_zero]
    exact hB _ _ _ (kinv_ms (kinv_rem hK) (inv_mar (hK.2.2.1 0) hg.1 hg.2 hq.2)) (rel_th ((by rw [e0]; exact rel_act hK hR)))
  · refine G.eqw (w' := cW κ (dE ν) o) (by rw [if_neg hc, if_neg hc]) ?_
    refine g_aload_n (i := 2) (pc := 773) dL_law_773 rfl rfl ?_
    refine g_aload_n (i := 0) (pc := 774) dL_law_774 rfl rfl ?_
    refine g_iload (pc := 775) dL_law_775 rfl ?_
    refine g_iconst (pc := 777) dL_law_777 ?_
    refine g_iadd (pc := 778) dL_law_778 ?_
    refine g_sld (pc := 779) rfl dL_law_779 (by omega) ?_
    refine g_aload_n (i := 0) (pc := 780) dL_law_780 rfl rfl ?_
    refine g_iload (pc := 781) dL_law_781 rfl ?_
    refine g_iconst (pc := 783) dL_law_783 ?_
    refine g_iadd (pc := 784) dL_law_784 ?_
    refine g_sld (pc := 785) rfl dL_law_785 (by omega) ?_
    refine g_v2 (pc := 786) okV_X4_marry rfl l_L_131 dL_law_786 c_79 hc_4 (by decide) (by decide) (Nat.le_of_ble_eq_true rfl) (nr_1 (k := xc_ma (k_ms κ 0) (f (i + 1).toNat) (f (i + 2).toNat)) (t_X4_marry (κ := κ) (ν := ν) (o := o) (al := false) hN (hf _) (hf _)) (by rw [e0]) hc) (by simp only [c_len]) ?_
    simp only [Option.toList, List.cons_append, List.nil_append]
    refine g_istore (pc := 789) dL_law_789 (by decide) rfl ?_
    simp only [List.set_cons_succ, List.set_cons_zero]
    refine g_aload_n (i := 2) (pc := 791) dL_law_791 rfl rfl ?_
    refine g_v0 (pc := 792) okV_X4_thrown rfl l_L_91 dL_law_792 c_79 hc_4 (by decide) (by decide) (Nat.le_of_ble_eq_true rfl) (t_X4_thrown (ν := n_setth ν (xc_ma (k_ms κ 0) (f (i + 1).toNat) (f (i + 2).toNat)))) rfl ?_
    simp only [Option.toList, List.cons_append, List.nil_append]
    refine G.eqS (v' := vI (xc_ma (k_ms κ 0) (f (i + 1).toNat) (f (i + 2).toNat))) rfl ?_
    refine g_iload (pc := 795) dL_law_795 rfl ?_
    refine g_c_eq (tgt := 802) (pc := 797) dL_law_797 (by omega) (by decide) (fun _ => ?_) (fun c9 => absurd rfl c9)
    refine g_iload (pc := 802) dL_law_802 rfl ?_
    refine g_z_ne (tgt := 819) (pc := 804) dL_law_804 (by omega) (by decide) (fun _ => ?_) (fun c9 => absurd c9 hc)
    refine g_goto (tgt := 1561) (pc := 819) dL_law_819 (by decide) ?_
    refine G.drop 6 (G.drop 5 ?_)
    simp only [List.set_cons_succ, List.set_cons_zero]
    exact hB _ _ _ (hK) (rel_th (hR))
set_option maxRecDepth 20000 in
set_option maxHeartbeats 400000 in
theorem lc_12 {n : Nat} {f : Nat → Int} {i : Int} {κ : KT} {ν : NT} {o : Nat → Int} {bc bs : Nat} {Q : (Option MV) ⊕ String → List MC → Prop} (hf : ∀ j, -2147483648 ≤ f j ∧ f j < 2147483648) (h_i : 0 ≤ i ∧ i + 3 < n ∧ n < 2147483648) (hK : KInv κ) (hR : Rel κ ν) (hB : LB n f i bc bs Q) : G M_L_law (some (n, f)) false false 822 [some (vR SCR), some (vR 0), some (vR 79), some (vR 87), some (vI i), none, none] [] (cW κ (dE ν) o) (bc + 2) (bs + 12) Q := by
  have hN := ninv_of hK hR
  have e0 : n_st ν = k_ms κ 0 := hR.1
  refine g_aload_n (i := 1) (pc := 822) dL_law_822 rfl rfl ?_
  refine g_aload_n (i := 0) (pc := 823) dL_law_823 rfl rfl ?_
  refine g_iload (pc := 824) dL_law_824 rfl ?_
  refine g_iconst (pc := 826) dL_law_826 ?_
  refine g_iadd (pc := 827) dL_law_827 ?_
  refine g_sld (pc := 828) rfl dL_law_828 (by omega) ?_
  refine g_aload_n (i := 0) (pc := 829) dL_law_829 rfl rfl ?_
  refine g_iload (pc := 830) dL_law_830 rfl ?_
  refine g_iconst (pc := 832) dL_law_832 ?_
  refine g_iadd (pc := 833) dL_law_833 ?_
  refine g_sld (pc := 834) rfl dL_law_834 (by omega) ?_
  refine g_aload_n (i := 3) (pc := 835) dL_law_835 rfl rfl ?_
  refine g_callSX (pc := 836) (as := [vR 0, vI (f (i + 1).toNat), vI (f (i + 2).toNat), vR 87]) (bc' := 2) (bs' := 12) okS_L_tear (by decide) l_L_132 dL_law_836 rfl (Nat.le_of_ble_eq_true rfl) (by decide) (Nat.le_of_ble_eq_true rfl) ⟨by omega, by omega⟩ (t_L_tear (κ := κ) (δ := dE ν) (o := o) hK (hf _) (hf _)) (fun h => nomatch h) (fun r w' h => ?_) (fun E w' h => nomatch h.1)
  obtain ⟨h1, h2⟩ := h
  obtain rfl := Sum.inl.inj h1
  subst h2
  simp only [Option.toList, List.cons_append, List.nil_append]
  refine G.bud (bc := bc) (bs := bs) ?_ (by omega) (by omega)
  have hr9 : 0 ≤ xc_te (k_ms κ 0) (f (i + 1).toNat) (f (i + 2).toNat) ∧ xc_te (k_ms κ 0) (f (i + 1).toNat) (f (i + 2).toNat) ≤ 2 := by unfold xc_te; (repeat' split) <;> omega
  refine g_istore (pc := 839) dL_law_839 (by decide) rfl ?_
  simp only [List.set_cons_succ, List.set_cons_zero]
  by_cases hc : xc_te (k_ms κ 0) (f (i + 1).toNat) (f (i + 2).toNat) = 0
  · refine G.eqw (w' := cW (k_setms (k_rem κ) 0 (s_torn (k_ms κ 0) (f (i + 1).toNat) (f (i + 2).toNat))) (dE ν) (va_up o 0 (wr (ro (k_ms κ 0) (f (i + 1).toNat) (f (i + 2).toNat))))) (by rw [if_pos hc, if_pos hc]) ?_
    have hq : hasGr (k_ms κ 0) (f (i + 1).toNat) (f (i + 2).toNat) = true := by
      unfold xc_te at hc
      (repeat' split at hc) <;> first | omega | assumption
    have hg := ex_gr hq
    refine g_aload_n (i := 2) (pc := 841) dL_law_841 rfl rfl ?_
    refine g_aload_n (i := 0) (pc := 842) dL_law_842 rfl rfl ?_
    refine g_iload (pc := 843) dL_law_843 rfl ?_
    refine g_iconst (pc := 845) dL_law_845 ?_
    refine g_iadd (pc := 846) dL_law_846 ?_
    refine g_sld (pc := 847) rfl dL_law_847 (by omega) ?_
    refine g_aload_n (i := 0) (pc := 848) dL_law_848 rfl rfl ?_
    refine g_iload (pc := 849) dL_law_849 rfl ?_
    refine g_iconst (pc := 851) dL_law_851 ?_
    refine g_iadd (pc := 852) dL_law_852 ?_
    refine g_sld (pc := 853) rfl dL_law_853 (by omega) ?_
    refine g_v2 (pc := 854) okV_X4_tear rfl l_L_134 dL_law_854 c_79 hc_4 (by decide) (by decide) (Nat.le_of_ble_eq_true rfl) (nr_0 (v' := ro (k_ms κ 0) (f (i + 1).toNat) (f (i + 2).toNat)) (t_X4_tear (κ := (k_setms (k_rem κ) 0 (s_torn (k_ms κ 0) (f (i + 1).toNat) (f (i + 2).toNat)))) (ν := ν) (o := (va_up o 0 (wr (ro (k_ms κ 0) (f (i + 1).toNat) (f (i + 2).toNat))))) (al := false) hN (hf _) (hf _)) (by rw [e0]; exact hc) (by rw [e0])) (by simp only [c_len]) ?_
    simp only [Option.toList, List.cons_append, List.nil_append]
    refine g_istore (pc := 857) dL_law_857 (by decide) rfl ?_
    simp only [List.set_cons_succ, List.set_cons_zero]
    refine g_aload_n (i := 2) (pc := 859) dL_law_859 rfl rfl ?_
    refine g_v0 (pc := 860) okV_X4_thrown rfl l_L_91 dL_law_860 c_79 hc_4 (by decide) (by decide) (Nat.le_of_ble_eq_true rfl) (t_X4_thrown (ν := n_setth (n_setst (n_rem ν) (s_torn (n_st ν) (f (i + 1).toNat) (f (i + 2).toNat))) 0)) rfl ?_
    simp only [Option.toList, List.cons_append, List.nil_append]
    refine G.eqS (v' := vI (0)) rfl ?_
    refine g_iload (pc := 863) dL_law_863 rfl ?_
    refine g_c_eq (tgt := 870) (pc := 865) dL_law_865 (by omega) (by decide) (fun _ => ?_) (fun c9 => absurd hc.symm c9)
    refine g_iload (pc := 870) dL_law_870 rfl ?_
    refine g_z_ne (tgt := 887) (pc := 872) dL_law_872 (by omega) (by decide) (fun c9 => absurd hc c9) (fun _ => ?_)
    refine g_aload_n (i := 3) (pc := 875) dL_law_875 rfl rfl ?_
    refine g_iconst (pc := 876) dL_law_876 ?_
    refine g_lald (pc := 877) dL_law_877 c_87 (by decide) ?_
    refine G.eqS (v' := vL (wr (ro (k_ms κ 0) (f (i + 1).toNat) (f (i + 2).toNat)))) (congrArg (fun z => vL z) (up_s _ _ _)) ?_
    refine g_iload (pc := 878) dL_law_878 rfl ?_
    refine g_wr ?_
    have hw9 := wr_rng (ro (k_ms κ 0) (f (i + 1).toNat) (f (i + 2).toNat))
    refine g_i2l (pc := 880) dL_law_880 hw9 ?_
    refine g_lcmp (pc := 881) dL_law_881 (by omega) (by omega) ?_
    refine g_z_eq (tgt := 887) (pc := 882) dL_law_882 (by rw [bcmp_0]; decide) (by decide) (fun _ => ?_) (fun c9 => absurd (bcmp_0 _) c9)
    refine g_goto (tgt := 1561) (pc := 887) dL_law_887 (by decide) ?_
    refine G.drop 6 (G.drop 5 ?_)
    simp only [List.set_cons_succ, List.set_cons_zero]
    exact hB _ _ _ (kinv_ms (kinv_rem hK) (inv_torn (hK.2.2.1 0) ⟨hg.1.1, hg.1.2.1⟩ hg.2)) (rel_th ((by rw [e0]; exact rel_act hK hR)))
  · refine G.eqw (w' := cW κ (dE ν) o) (by rw [if_neg hc, if_neg hc]) ?_
    refine g_aload_n (i := 2) (pc := 841) dL_law_841 rfl rfl ?_
    refine g_aload_n (i := 0) (pc := 842) dL_law_842 rfl rfl ?_
    refine g_iload (pc := 843) dL_law_843 rfl ?_
    refine g_iconst (pc := 845) dL_law_845 ?_
    refine g_iadd (pc := 846) dL_law_846 ?_
    refine g_sld (pc := 847) rfl dL_law_847 (by omega) ?_
    refine g_aload_n (i := 0) (pc := 848) dL_law_848 rfl rfl ?_
    refine g_iload (pc := 849) dL_law_849 rfl ?_
    refine g_iconst (pc := 851) dL_law_851 ?_
    refine g_iadd (pc := 852) dL_law_852 ?_
    refine g_sld (pc := 853) rfl dL_law_853 (by omega) ?_
    refine g_v2 (pc := 854) okV_X4_tear rfl l_L_134 dL_law_854 c_79 hc_4 (by decide) (by decide) (Nat.le_of_ble_eq_true rfl) (nr_1 (k := xc_te (k_ms κ 0) (f (i + 1).toNat) (f (i + 2).toNat)) (t_X4_tear (κ := κ) (ν := ν) (o := o) (al := false) hN (hf _) (hf _)) (by rw [e0]) hc) (by simp only [c_len]) ?_
    simp only [Option.toList, List.cons_append, List.nil_append]
    refine g_istore (pc := 857) dL_law_857 (by decide) rfl ?_
    simp only [List.set_cons_succ, List.set_cons_zero]
    refine g_aload_n (i := 2) (pc := 859) dL_law_859 rfl rfl ?_
    refine g_v0 (pc := 860) okV_X4_thrown rfl l_L_91 dL_law_860 c_79 hc_4 (by decide) (by decide) (Nat.le_of_ble_eq_true rfl) (t_X4_thrown (ν := n_setth ν (xc_te (k_ms κ 0) (f (i + 1).toNat) (f (i + 2).toNat)))) rfl ?_
    simp only [Option.toList, List.cons_append, List.nil_append]
    refine G.eqS (v' := vI (xc_te (k_ms κ 0) (f (i + 1).toNat) (f (i + 2).toNat))) rfl ?_
    refine g_iload (pc := 863) dL_law_863 rfl ?_
    refine g_c_eq (tgt := 870) (pc := 865) dL_law_865 (by omega) (by decide) (fun _ => ?_) (fun c9 => absurd rfl c9)
    refine g_iload (pc := 870) dL_law_870 rfl ?_
    refine g_z_ne (tgt := 887) (pc := 872) dL_law_872 (by omega) (by decide) (fun _ => ?_) (fun c9 => absurd c9 hc)
    refine g_goto (tgt := 1561) (pc := 887) dL_law_887 (by decide) ?_
    refine G.drop 6 (G.drop 5 ?_)
    simp only [List.set_cons_succ, List.set_cons_zero]
    exact hB _ _ _ (hK) (rel_th (hR))
set_option maxRecDepth 20000 in
set_option maxHeartbeats 400000 in
theorem lc_13 {n : Nat} {f : Nat → Int} {i : Int} {κ : KT} {ν : NT} {o : Nat → Int} {bc bs : Nat} {Q : (Option MV) ⊕ String → List MC → Prop} (hf : ∀ j, -2147483648 ≤ f j ∧ f j < 2147483648) (h_i : 0 ≤ i ∧ i + 3 < n ∧ n < 2147483648) (hK : KInv κ) (hR : Rel κ ν) (hB : LB n f i bc bs Q) : G M_L_law (some (n, f)) false false 890 [some (vR SCR), some (vR 0), some (vR 79), some (vR 87), some (vI i), none, none] [] (cW κ (dE ν) o) (bc + 2) (bs + 12) Q := by
  have hN := ninv_of hK hR
  have e0 : n_st ν = k_ms κ 0 := hR.1
  refine g_aload_n (i := 1) (pc := 890) dL_law_890 rfl rfl ?_
  refine g_aload_n (i := 0) (pc := 891) dL_law_891 rfl rfl ?_
  refine g_iload (pc := 892) dL_law_892 rfl ?_
  refine g_iconst (pc := 894) dL_law_894 ?_
  refine g_iadd (pc := 895) dL_law_895 ?_
  refine g_sld (pc := 896) rfl dL_law_896 (by omega) ?_
  refine g_aload_n (i := 3) (pc := 897) dL_law_897 rfl rfl ?_
  refine g_callSX (pc := 898) (as := [vR 0, vI (f (i + 1).toNat), vR 87]) (bc' := 2) (bs' := 12) okS_L_press (by decide) l_L_135 dL_law_898 rfl (Nat.le_of_ble_eq_true rfl) (by decide) (Nat.le_of_ble_eq_true rfl) ⟨by omega, by omega⟩ (t_L_press (κ := κ) (δ := dE ν) (o := o) hK (hf _)) (fun h => nomatch h) (fun r w' h => ?_) (fun E w' h => nomatch h.1)
  obtain ⟨h1, h2⟩ := h
  obtain rfl := Sum.inl.inj h1
  subst h2
  simp only [Option.toList, List.cons_append, List.nil_append]
  refine G.bud (bc := bc) (bs := bs) ?_ (by omega) (by omega)
  have hr9 : 0 ≤ xc_pr (f (i + 1).toNat) ∧ xc_pr (f (i + 1).toNat) ≤ 1 := by unfold xc_pr; (repeat' split) <;> omega
  refine g_istore (pc := 901) dL_law_901 (by decide) rfl ?_
  simp only [List.set_cons_succ, List.set_cons_zero]
  by_cases hc : xc_pr (f (i + 1).toNat) = 0
  · refine G.eqw (w' := cW (k_setms (k_rem κ) 0 (s_pre (k_ms κ 0) (f (i + 1).toNat))) (dE ν) (va_up o 0 (wr (nff (s_pre (k_ms κ 0) (f (i + 1).toNat)))))) (by rw [if_pos hc, if_pos hc]) ?_
    refine g_aload_n (i := 2) (pc := 903) dL_law_903 rfl rfl ?_
    refine g_aload_n (i := 0) (pc := 904) dL_law_904 rfl rfl ?_
    refine g_iload (pc := 905) dL_law_905 rfl ?_
    refine g_iconst (pc := 907) dL_law_907 ?_
    refine g_iadd (pc := 908) dL_law_908 ?_
    refine g_sld (pc := 909) rfl dL_law_909 (by omega) ?_
    refine g_v1 (pc := 910) okV_X4_press rfl l_L_137 dL_law_910 c_79 hc_4 (by decide) (by decide) (Nat.le_of_ble_eq_true rfl) (nr_0 (v' := nff (s_pre (k_ms κ 0) (f (i + 1).toNat))) (t_X4_press (κ := (k_setms (k_rem κ) 0 (s_pre (k_ms κ 0) (f (i + 1).toNat)))) (ν := ν) (o := (va_up o 0 (wr (nff (s_pre (k_ms κ 0) (f (i + 1).toNat)))))) (al := false) hN (hf _)) hc (by rw [e0])) (by simp only [c_len]) ?_
    simp only [Option.toList, List.cons_append, List.nil_append]
    refine g_istore (pc := 913) dL_law_913 (by decide) rfl ?_
    simp only [List.set_cons_succ, List.set_cons_zero]
    refine g_aload_n (i := 2) (pc := 915) dL_law_915 rfl rfl ?_
    refine g_v0 (pc := 916) okV_X4_thrown rfl l_L_91 dL_law_916 c_79 hc_4 (by decide) (by decide) (Nat.le_of_ble_eq_true rfl) (t_X4_thrown (ν := n_setth (n_setst (n_rem ν) (s_pre (n_st ν) (f (i + 1).toNat))) 0)) rfl ?_
    simp only [Option.toList, List.cons_append, List.nil_append]
    refine G.eqS (v' := vI (0)) rfl ?_
    refine g_iload (pc := 919) dL_law_919 rfl ?_
    refine g_c_eq (tgt := 926) (pc := 921) dL_law_921 (by omega) (by decide) (fun _ => ?_) (fun c9 => absurd hc.symm c9)
    refine g_iload (pc := 926) dL_law_926 rfl ?_
    refine g_z_ne (tgt := 943) (pc := 928) dL_law_928 (by omega) (by decide) (fun c9 => absurd hc c9) (fun _ => ?_)
    refine g_aload_n (i := 3) (pc := 931) dL_law_931 rfl rfl ?_
    refine g_iconst (pc := 932) dL_law_932 ?_
    refine g_lald (pc := 933) dL_law_933 c_87 (by decide) ?_
    refine G.eqS (v' := vL (wr (nff (s_pre (k_ms κ 0) (f (i + 1).toNat))))) (congrArg (fun z => vL z) (up_s _ _ _)) ?_
    refine g_iload (pc := 934) dL_law_934 rfl ?_
    refine g_wr ?_
    have hw9 := wr_rng (nff (s_pre (k_ms κ 0) (f (i + 1).toNat)))
    refine g_i2l (pc := 936) dL_law_936 hw9 ?_
    refine g_lcmp (pc := 937) dL_law_937 (by omega) (by omega) ?_
    refine g_z_eq (tgt := 943) (pc := 938) dL_law_938 (by rw [bcmp_0]; decide) (by decide) (fun _ => ?_) (fun c9 => absurd (bcmp_0 _) c9)
    refine g_goto (tgt := 1561) (pc := 943) dL_law_943 (by decide) ?_
    refine G.drop 6 (G.drop 5 ?_)
    simp only [List.set_cons_succ, List.set_cons_zero]
    exact hB _ _ _ (kinv_ms (kinv_rem hK) (inv_itp (hK.2.2.1 0) (f (i + 1).toNat) 80)) (rel_th ((by rw [e0]; exact rel_act hK hR)))
  · refine G.eqw (w' := cW κ (dE ν) o) (by rw [if_neg hc, if_neg hc]) ?_
    refine g_aload_n (i := 2) (pc := 903) dL_law_903 rfl rfl ?_
    refine g_aload_n (i := 0) (pc := 904) dL_law_904 rfl rfl ?_
    refine g_iload (pc := 905) dL_law_905 rfl ?_
    refine g_iconst (pc := 907) dL_law_907 ?_
    refine g_iadd (pc := 908) dL_law_908 ?_
    refine g_sld (pc := 909) rfl dL_law_909 (by omega) ?_
    refine g_v1 (pc := 910) okV_X4_press rfl l_L_137 dL_law_910 c_79 hc_4 (by decide) (by decide) (Nat.le_of_ble_eq_true rfl) (nr_1 (k := xc_pr (f (i + 1).toNat)) (t_X4_press (κ := κ) (ν := ν) (o := o) (al := false) hN (hf _)) rfl hc) (by simp only [c_len]) ?_
    simp only [Option.toList, List.cons_append, List.nil_append]
    refine g_istore (pc := 913) dL_law_913 (by decide) rfl ?_
    simp only [List.set_cons_succ, List.set_cons_zero]
    refine g_aload_n (i := 2) (pc := 915) dL_law_915 rfl rfl ?_
    refine g_v0 (pc := 916) okV_X4_thrown rfl l_L_91 dL_law_916 c_79 hc_4 (by decide) (by decide) (Nat.le_of_ble_eq_true rfl) (t_X4_thrown (ν := n_setth ν (xc_pr (f (i + 1).toNat)))) rfl ?_
    simp only [Option.toList, List.cons_append, List.nil_append]
    refine G.eqS (v' := vI (xc_pr (f (i + 1).toNat))) rfl ?_
    refine g_iload (pc := 919) dL_law_919 rfl ?_
    refine g_c_eq (tgt := 926) (pc := 921) dL_law_921 (by omega) (by decide) (fun _ => ?_) (fun c9 => absurd rfl c9)
    refine g_iload (pc := 926) dL_law_926 rfl ?_
    refine g_z_ne (tgt := 943) (pc := 928) dL_law_928 (by omega) (by decide) (fun _ => ?_) (fun c9 => absurd c9 hc)
    refine g_goto (tgt := 1561) (pc := 943) dL_law_943 (by decide) ?_
    refine G.drop 6 (G.drop 5 ?_)
    simp only [List.set_cons_succ, List.set_cons_zero]
    exact hB _ _ _ (hK) (rel_th (hR))
set_option maxRecDepth 20000 in
set_option maxHeartbeats 400000 in
theorem lc_14 {n : Nat} {f : Nat → Int} {i : Int} {κ : KT} {ν : NT} {o : Nat → Int} {bc bs : Nat} {Q : (Option MV) ⊕ String → List MC → Prop} (hf : ∀ j, -2147483648 ≤ f j ∧ f j < 2147483648) (h_i : 0 ≤ i ∧ i + 3 < n ∧ n < 2147483648) (hK : KInv κ) (hR : Rel κ ν) (hB : LB n f i bc bs Q) : G M_L_law (some (n, f)) false false 946 [some (vR SCR), some (vR 0), some (vR 79), some (vR 87), some (vI i), none, none] [] (cW κ (dE ν) o) (bc + 2) (bs + 12) Q := by
  have hN := ninv_of hK hR
  have e0 : n_st ν = k_ms κ 0 := hR.1
  have h_a := hf (i + 1).toNat
  by_cases hx : f (i + 1).toNat = 0
  · refine G.bud (bc := bc) (bs := bs) ?_ (by omega) (by omega)
    refine g_aload_n (i := 1) (pc := 946) dL_law_946 rfl rfl ?_
    refine g_aload_n (i := 0) (pc := 947) dL_law_947 rfl rfl ?_
    refine g_iload (pc := 948) dL_law_948 rfl ?_
    refine g_iconst (pc := 950) dL_law_950 ?_
    refine g_iadd (pc := 951) dL_law_951 ?_
    refine g_sld (pc := 952) rfl dL_law_952 (by omega) ?_
    refine g_z_eq (tgt := 960) (pc := 953) dL_law_953 (by omega) (by decide) (fun _ => ?_) (fun c9 => absurd hx c9)
    refine g_iconst (pc := 960) dL_law_960 ?_
    refine g_v1 (pc := 961) okV_X3_setEager rfl l_L_138 dL_law_961 c_0 hc_3 (by decide) (by decide) (Nat.le_of_ble_eq_true rfl) (t_X3_setEager (δ := dE ν) (o := o) hK (x := 0) (by decide)) (by simp only [c_len]) ?_
    simp only [Option.toList, List.cons_append, List.nil_append]
    have hr9 := nfr_rng (k_ms κ 0)
    refine g_aload_n (i := 2) (pc := 964) dL_law_964 rfl rfl ?_
    refine g_aload_n (i := 0) (pc := 965) dL_law_965 rfl rfl ?_
    refine g_iload (pc := 966) dL_law_966 rfl ?_
    refine g_iconst (pc := 968) dL_law_968 ?_
    refine g_iadd (pc := 969) dL_law_969 ?_
    refine g_sld (pc := 970) rfl dL_law_970 (by omega) ?_
    refine g_z_eq (tgt := 978) (pc := 971) dL_law_971 (by omega) (by decide) (fun _ => ?_) (fun c9 => absurd hx c9)
    refine g_iconst (pc := 978) dL_law_978 ?_
    refine g_v1 (pc := 979) okV_X4_setEager rfl l_L_142 dL_law_979 c_79 hc_4 (by decide) (by decide) (Nat.le_of_ble_eq_true rfl) (t_X4_setEager (κ := k_setms (k_rem κ) 0 (s_setea (k_ms κ 0) 0)) (ν := ν) (o := o) (al := false) hN (x := 0) (by decide)) (by simp only [c_len]) ?_
    simp only [Option.toList, List.cons_append, List.nil_append]
    refine G.eqS (v' := vI (nfr (k_ms κ 0))) (congrArg (fun z => vI z) (by rw [e0])) ?_
    refine g_c_eq (tgt := 1561) (pc := 982) dL_law_982 (by omega) (by decide) (fun _ => ?_) (fun c9 => absurd rfl c9)
    exact hB _ _ _ (kinv_ms (kinv_rem hK) (inv_ea (hK.2.2.1 0) (by decide))) (rel_th (by rw [e0]; exact rel_act hK hR))
  · refine G.bud (bc := bc) (bs := bs) ?_ (by omega) (by omega)
    refine g_aload_n (i := 1) (pc := 946) dL_law_946 rfl rfl ?_
    refine g_aload_n (i := 0) (pc := 947) dL_law_947 rfl rfl ?_
    refine g_iload (pc := 948) dL_law_948 rfl ?_
    refine g_iconst (pc := 950) dL_law_950 ?_
    refine g_iadd (pc := 951) dL_law_951 ?_
    refine g_sld (pc := 952) rfl dL_law_952 (by omega) ?_
    refine g_z_eq (tgt := 960) (pc := 953) dL_law_953 (by omega) (by decide) (fun c9 => absurd c9 hx) (fun _ => ?_)
    refine g_iconst (pc := 956) dL_law_956 ?_
    refine g_goto (tgt := 961) (pc := 957) dL_law_957 (by decide) ?_
    refine g_v1 (pc := 961) okV_X3_setEager rfl l_L_138 dL_law_961 c_0 hc_3 (by decide) (by decide) (Nat.le_of_ble_eq_true rfl) (t_X3_setEager (δ := dE ν) (o := o) hK (x := 1) (by decide)) (by simp only [c_len]) ?_
    simp only [Option.toList, List.cons_append, List.nil_append]
    have hr9 := nfr_rng (k_ms κ 0)
    refine g_aload_n (i := 2) (pc := 964) dL_law_964 rfl rfl ?_
    refine g_aload_n (i := 0) (pc := 965) dL_law_965 rfl rfl ?_
    refine g_iload (pc := 966) dL_law_966 rfl ?_
    refine g_iconst (pc := 968) dL_law_968 ?_
    refine g_iadd (pc := 969) dL_law_969 ?_
    refine g_sld (pc := 970) rfl dL_law_970 (by omega) ?_
    refine g_z_eq (tgt := 978) (pc := 971) dL_law_971 (by omega) (by decide) (fun c9 => absurd c9 hx) (fun _ => ?_)
    refine g_iconst (pc := 974) dL_law_974 ?_
    refine g_goto (tgt := 979) (pc := 975) dL_law_975 (by decide) ?_
    refine g_v1 (pc := 979) okV_X4_setEager rfl l_L_142 dL_law_979 c_79 hc_4 (by decide) (by decide) (Nat.le_of_ble_eq_true rfl) (t_X4_setEager (κ := k_setms (k_rem κ) 0 (s_setea (k_ms κ 0) 1)) (ν := ν) (o := o) (al := false) hN (x := 1) (by decide)) (by simp only [c_len]) ?_
    simp only [Option.toList, List.cons_append, List.nil_append]
    refine G.eqS (v' := vI (nfr (k_ms κ 0))) (congrArg (fun z => vI z) (by rw [e0])) ?_
    refine g_c_eq (tgt := 1561) (pc := 982) dL_law_982 (by omega) (by decide) (fun _ => ?_) (fun c9 => absurd rfl c9)
    exact hB _ _ _ (kinv_ms (kinv_rem hK) (inv_ea (hK.2.2.1 0) (by decide))) (rel_th (by rw [e0]; exact rel_act hK hR))
set_option maxRecDepth 20000 in
set_option maxHeartbeats 400000 in
theorem lc_15 {n : Nat} {f : Nat → Int} {i : Int} {κ : KT} {ν : NT} {o : Nat → Int} {bc bs : Nat} {Q : (Option MV) ⊕ String → List MC → Prop} (hf : ∀ j, -2147483648 ≤ f j ∧ f j < 2147483648) (h_i : 0 ≤ i ∧ i + 3 < n ∧ n < 2147483648) (hK : KInv κ) (hR : Rel κ ν) (hB : LB n f i bc bs Q) : G M_L_law (some (n, f)) false false 987 [some (vR SCR), some (vR 0), some (vR 79), some (vR 87), some (vI i), none, none] [] (cW κ (dE ν) o) (bc + 2) (bs + 12) Q := by
  have hN := ninv_of hK hR
  have e0 : n_st ν = k_ms κ 0 := hR.1
  refine g_aload_n (i := 1) (pc := 987) dL_law_987 rfl rfl ?_
  refine g_aload_n (i := 3) (pc := 988) dL_law_988 rfl rfl ?_
  refine g_callSX (pc := 989) (as := [vR 0, vR 87]) (bc' := 2) (bs' := 12) okS_L_undo (by decide) l_L_143 dL_law_989 rfl (Nat.le_of_ble_eq_true rfl) (by decide) (Nat.le_of_ble_eq_true rfl) ⟨by omega, by omega⟩ (t_L_undo (κ := κ) (δ := dE ν) (o := o) hK) (fun h => nomatch h) (fun r w' h => ?_) (fun E w' h => nomatch h.1)
  obtain ⟨h1, h2⟩ := h
  obtain rfl := Sum.inl.inj h1
  subst h2
  simp only [Option.toList, List.cons_append, List.nil_append]
  refine G.bud (bc := bc) (bs := bs) ?_ (by omega) (by omega)
  have hr9 : 0 ≤ xc_un κ ∧ xc_un κ ≤ 1 := by unfold xc_un; (repeat' split) <;> omega
  refine g_istore (pc := 992) dL_law_992 (by decide) rfl ?_
  simp only [List.set_cons_succ, List.set_cons_zero]
  by_cases hc : xc_un κ = 0
  · refine G.eqw (w' := cW (k_tak κ) (dE ν) (va_up o 0 (wr (k_sz κ - 1)))) (by rw [if_pos hc, if_pos hc]) ?_
    have hq : 0 < k_sz κ := by
      have := hK.2.2.2.2.1
      unfold xc_un at hc
      (repeat' split at hc) <;> omega
    refine g_aload_n (i := 2) (pc := 994) dL_law_994 rfl rfl ?_
    refine g_v0 (pc := 995) okV_X4_undo rfl l_L_145 dL_law_995 c_79 hc_4 (by decide) (by decide) (Nat.le_of_ble_eq_true rfl) (nr_0 (v' := k_sz κ - 1) (t_X4_undo (κ := (k_tak κ)) (ν := ν) (o := (va_up o 0 (wr (k_sz κ - 1)))) (al := false) hN) (by rw [xn_un_e hR]; exact hc) (by rw [hR.2.1])) (by simp only [c_len]) ?_
    simp only [Option.toList, List.cons_append, List.nil_append]
    refine g_istore (pc := 998) dL_law_998 (by decide) rfl ?_
    simp only [List.set_cons_succ, List.set_cons_zero]
    refine g_aload_n (i := 2) (pc := 1000) dL_law_1000 rfl rfl ?_
    refine g_v0 (pc := 1001) okV_X4_thrown rfl l_L_91 dL_law_1001 c_79 hc_4 (by decide) (by decide) (Nat.le_of_ble_eq_true rfl) (t_X4_thrown (ν := n_setth (n_setst (n_setre ν (n_re ν - 1)) (n_hi ν (n_re ν - 1).toNat)) 0)) rfl ?_
    simp only [Option.toList, List.cons_append, List.nil_append]
    refine G.eqS (v' := vI (0)) rfl ?_
    refine g_iload (pc := 1004) dL_law_1004 rfl ?_
    refine g_c_eq (tgt := 1011) (pc := 1006) dL_law_1006 (by omega) (by decide) (fun _ => ?_) (fun c9 => absurd hc.symm c9)
    refine g_iload (pc := 1011) dL_law_1011 rfl ?_
    refine g_z_ne (tgt := 1028) (pc := 1013) dL_law_1013 (by omega) (by decide) (fun c9 => absurd hc c9) (fun _ => ?_)
    refine g_aload_n (i := 3) (pc := 1016) dL_law_1016 rfl rfl ?_
    refine g_iconst (pc := 1017) dL_law_1017 ?_
    refine g_lald (pc := 1018) dL_law_1018 c_87 (by decide) ?_
    refine G.eqS (v' := vL (wr (k_sz κ - 1))) (congrArg (fun z => vL z) (up_s _ _ _)) ?_
    refine g_iload (pc := 1019) dL_law_1019 rfl ?_
    refine g_wr ?_
    have hw9 := wr_rng (k_sz κ - 1)
    refine g_i2l (pc := 1021) dL_law_1021 hw9 ?_
    refine g_lcmp (pc := 1022) dL_law_1022 (by omega) (by omega) ?_
    refine g_z_eq (tgt := 1028) (pc := 1023) dL_law_1023 (by rw [bcmp_0]; decide) (by decide) (fun _ => ?_) (fun c9 => absurd (bcmp_0 _) c9)
    refine g_goto (tgt := 1561) (pc := 1028) dL_law_1028 (by decide) ?_
    refine G.drop 6 (G.drop 5 ?_)
    simp only [List.set_cons_succ, List.set_cons_zero]
    exact hB _ _ _ (kinv_tak hK) (rel_th (rel_tak hK hR hq))
  · refine G.eqw (w' := cW κ (dE ν) o) (by rw [if_neg hc, if_neg hc]) ?_
    refine g_aload_n (i := 2) (pc := 994) dL_law_994 rfl rfl ?_
    refine g_v0 (pc := 995) okV_X4_undo rfl l_L_145 dL_law_995 c_79 hc_4 (by decide) (by decide) (Nat.le_of_ble_eq_true rfl) (nr_1 (k := xc_un κ) (t_X4_undo (κ := κ) (ν := ν) (o := o) (al := false) hN) (xn_un_e hR) hc) (by simp only [c_len]) ?_
    simp only [Option.toList, List.cons_append, List.nil_append]
    refine g_istore (pc := 998) dL_law_998 (by decide) rfl ?_
    simp only [List.set_cons_succ, List.set_cons_zero]
    refine g_aload_n (i := 2) (pc := 1000) dL_law_1000 rfl rfl ?_
    refine g_v0 (pc := 1001) okV_X4_thrown rfl l_L_91 dL_law_1001 c_79 hc_4 (by decide) (by decide) (Nat.le_of_ble_eq_true rfl) (t_X4_thrown (ν := n_setth ν (xc_un κ))) rfl ?_
    simp only [Option.toList, List.cons_append, List.nil_append]
    refine G.eqS (v' := vI (xc_un κ)) rfl ?_
    refine g_iload (pc := 1004) dL_law_1004 rfl ?_
    refine g_c_eq (tgt := 1011) (pc := 1006) dL_law_1006 (by omega) (by decide) (fun _ => ?_) (fun c9 => absurd rfl c9)
    refine g_iload (pc := 1011) dL_law_1011 rfl ?_
    refine g_z_ne (tgt := 1028) (pc := 1013) dL_law_1013 (by omega) (by decide) (fun _ => ?_) (fun c9 => absurd c9 hc)
    refine g_goto (tgt := 1561) (pc := 1028) dL_law_1028 (by decide) ?_
    refine G.drop 6 (G.drop 5 ?_)
    simp only [List.set_cons_succ, List.set_cons_zero]
    exact hB _ _ _ (hK) (rel_th (hR))
set_option maxRecDepth 20000 in
set_option maxHeartbeats 400000 in
theorem lc_16 {n : Nat} {f : Nat → Int} {i : Int} {κ : KT} {ν : NT} {o : Nat → Int} {bc bs : Nat} {Q : (Option MV) ⊕ String → List MC → Prop} (hf : ∀ j, -2147483648 ≤ f j ∧ f j < 2147483648) (h_i : 0 ≤ i ∧ i + 3 < n ∧ n < 2147483648) (hK : KInv κ) (hR : Rel κ ν) (hB : LB n f i bc bs Q) : G M_L_law (some (n, f)) false false 1031 [some (vR SCR), some (vR 0), some (vR 79), some (vR 87), some (vI i), none, none] [] (cW κ (dE ν) o) (bc + 2) (bs + 12) Q := by
  have hN := ninv_of hK hR
  have e0 : n_st ν = k_ms κ 0 := hR.1
  refine g_aload_n (i := 1) (pc := 1031) dL_law_1031 rfl rfl ?_
  refine g_aload_n (i := 0) (pc := 1032) dL_law_1032 rfl rfl ?_
  refine g_iload (pc := 1033) dL_law_1033 rfl ?_
  refine g_iconst (pc := 1035) dL_law_1035 ?_
  refine g_iadd (pc := 1036) dL_law_1036 ?_
  refine g_sld (pc := 1037) rfl dL_law_1037 (by omega) ?_
  refine g_aload_n (i := 0) (pc := 1038) dL_law_1038 rfl rfl ?_
  refine g_iload (pc := 1039) dL_law_1039 rfl ?_
  refine g_iconst (pc := 1041) dL_law_1041 ?_
  refine g_iadd (pc := 1042) dL_law_1042 ?_
  refine g_sld (pc := 1043) rfl dL_law_1043 (by omega) ?_
  refine g_aload_n (i := 3) (pc := 1044) dL_law_1044 rfl rfl ?_
  refine g_callSX (pc := 1045) (as := [vR 0, vI (f (i + 1).toNat), vI (f (i + 2).toNat), vR 87]) (bc' := 2) (bs' := 12) okS_L_whyNot (by decide) l_L_146 dL_law_1045 rfl (Nat.le_of_ble_eq_true rfl) (by decide) (Nat.le_of_ble_eq_true rfl) ⟨by omega, by omega⟩ (t_L_whyNot (κ := κ) (δ := dE ν) (o := o) hK (hf _) (hf _)) (fun h => nomatch h) (fun r w' h => ?_) (fun E w' h => nomatch h.1)
  obtain ⟨h1, h2⟩ := h
  obtain rfl := Sum.inl.inj h1
  subst h2
  simp only [Option.toList, List.cons_append, List.nil_append]
  refine G.bud (bc := bc) (bs := bs) ?_ (by omega) (by omega)
  have hr9 : 0 ≤ xc_wn (k_ms κ 0) (f (i + 1).toNat) (f (i + 2).toNat) ∧ xc_wn (k_ms κ 0) (f (i + 1).toNat) (f (i + 2).toNat) ≤ 1 := by unfold xc_wn; (repeat' split) <;> omega
  refine g_istore (pc := 1048) dL_law_1048 (by decide) rfl ?_
  simp only [List.set_cons_succ, List.set_cons_zero]
  by_cases hc : xc_wn (k_ms κ 0) (f (i + 1).toNat) (f (i + 2).toNat) = 0
  · refine G.eqw (w' := cW (κ) (dE ν) (va_up o 0 (wr (wn (k_ms κ 0) (f (i + 1).toNat) (f (i + 2).toNat))))) (by rw [if_pos hc, if_pos hc]) ?_
    refine g_aload_n (i := 2) (pc := 1050) dL_law_1050 rfl rfl ?_
    refine g_aload_n (i := 0) (pc := 1051) dL_law_1051 rfl rfl ?_
    refine g_iload (pc := 1052) dL_law_1052 rfl ?_
    refine g_iconst (pc := 1054) dL_law_1054 ?_
    refine g_iadd (pc := 1055) dL_law_1055 ?_
    refine g_sld (pc := 1056) rfl dL_law_1056 (by omega) ?_
    refine g_aload_n (i := 0) (pc := 1057) dL_law_1057 rfl rfl ?_
    refine g_iload (pc := 1058) dL_law_1058 rfl ?_
    refine g_iconst (pc := 1060) dL_law_1060 ?_
    refine g_iadd (pc := 1061) dL_law_1061 ?_
    refine g_sld (pc := 1062) rfl dL_law_1062 (by omega) ?_
    refine g_v2 (pc := 1063) okV_X4_whyNot rfl l_L_148 dL_law_1063 c_79 hc_4 (by decide) (by decide) (Nat.le_of_ble_eq_true rfl) (nr_0 (v' := wn (k_ms κ 0) (f (i + 1).toNat) (f (i + 2).toNat)) (t_X4_whyNot (κ := (κ)) (ν := ν) (o := (va_up o 0 (wr (wn (k_ms κ 0) (f (i + 1).toNat) (f (i + 2).toNat))))) (al := false) hN (hf _) (hf _)) (by rw [e0]; exact hc) (by rw [e0])) (by simp only [c_len]) ?_
    simp only [Option.toList, List.cons_append, List.nil_append]
    refine g_istore (pc := 1066) dL_law_1066 (by decide) rfl ?_
    simp only [List.set_cons_succ, List.set_cons_zero]
    refine g_aload_n (i := 2) (pc := 1068) dL_law_1068 rfl rfl ?_
    refine g_v0 (pc := 1069) okV_X4_thrown rfl l_L_91 dL_law_1069 c_79 hc_4 (by decide) (by decide) (Nat.le_of_ble_eq_true rfl) (t_X4_thrown (ν := n_setth (ν) 0)) rfl ?_
    simp only [Option.toList, List.cons_append, List.nil_append]
    refine G.eqS (v' := vI (0)) rfl ?_
    refine g_iload (pc := 1072) dL_law_1072 rfl ?_
    refine g_c_eq (tgt := 1079) (pc := 1074) dL_law_1074 (by omega) (by decide) (fun _ => ?_) (fun c9 => absurd hc.symm c9)
    refine g_iload (pc := 1079) dL_law_1079 rfl ?_
    refine g_z_ne (tgt := 1096) (pc := 1081) dL_law_1081 (by omega) (by decide) (fun c9 => absurd hc c9) (fun _ => ?_)
    refine g_aload_n (i := 3) (pc := 1084) dL_law_1084 rfl rfl ?_
    refine g_iconst (pc := 1085) dL_law_1085 ?_
    refine g_lald (pc := 1086) dL_law_1086 c_87 (by decide) ?_
    refine G.eqS (v' := vL (wr (wn (k_ms κ 0) (f (i + 1).toNat) (f (i + 2).toNat)))) (congrArg (fun z => vL z) (up_s _ _ _)) ?_
    refine g_iload (pc := 1087) dL_law_1087 rfl ?_
    refine g_wr ?_
    have hw9 := wr_rng (wn (k_ms κ 0) (f (i + 1).toNat) (f (i + 2).toNat))
    refine g_i2l (pc := 1089) dL_law_1089 hw9 ?_
    refine g_lcmp (pc := 1090) dL_law_1090 (by omega) (by omega) ?_
    refine g_z_eq (tgt := 1096) (pc := 1091) dL_law_1091 (by rw [bcmp_0]; decide) (by decide) (fun _ => ?_) (fun c9 => absurd (bcmp_0 _) c9)
    refine g_goto (tgt := 1561) (pc := 1096) dL_law_1096 (by decide) ?_
    refine G.drop 6 (G.drop 5 ?_)
    simp only [List.set_cons_succ, List.set_cons_zero]
    exact hB _ _ _ (hK) (rel_th (hR))
  · refine G.eqw (w' := cW κ (dE ν) o) (by rw [if_neg hc, if_neg hc]) ?_
    refine g_aload_n (i := 2) (pc := 1050) dL_law_1050 rfl rfl ?_
    refine g_aload_n (i := 0) (pc := 1051) dL_law_1051 rfl rfl ?_
    refine g_iload (pc := 1052) dL_law_1052 rfl ?_
    refine g_iconst (pc := 1054) dL_law_1054 ?_
    refine g_iadd (pc := 1055) dL_law_1055 ?_
    refine g_sld (pc := 1056) rfl dL_law_1056 (by omega) ?_
    refine g_aload_n (i := 0) (pc := 1057) dL_law_1057 rfl rfl ?_
    refine g_iload (pc := 1058) dL_law_1058 rfl ?_
    refine g_iconst (pc := 1060) dL_law_1060 ?_
    refine g_iadd (pc := 1061) dL_law_1061 ?_
    refine g_sld (pc := 1062) rfl dL_law_1062 (by omega) ?_
    refine g_v2 (pc := 1063) okV_X4_whyNot rfl l_L_148 dL_law_1063 c_79 hc_4 (by decide) (by decide) (Nat.le_of_ble_eq_true rfl) (nr_1 (k := xc_wn (k_ms κ 0) (f (i + 1).toNat) (f (i + 2).toNat)) (t_X4_whyNot (κ := κ) (ν := ν) (o := o) (al := false) hN (hf _) (hf _)) (by rw [e0]) hc) (by simp only [c_len]) ?_
    simp only [Option.toList, List.cons_append, List.nil_append]
    refine g_istore (pc := 1066) dL_law_1066 (by decide) rfl ?_
    simp only [List.set_cons_succ, List.set_cons_zero]
    refine g_aload_n (i := 2) (pc := 1068) dL_law_1068 rfl rfl ?_
    refine g_v0 (pc := 1069) okV_X4_thrown rfl l_L_91 dL_law_1069 c_79 hc_4 (by decide) (by decide) (Nat.le_of_ble_eq_true rfl) (t_X4_thrown (ν := n_setth ν (xc_wn (k_ms κ 0) (f (i + 1).toNat) (f (i + 2).toNat)))) rfl ?_
    simp only [Option.toList, List.cons_append, List.nil_append]
    refine G.eqS (v' := vI (xc_wn (k_ms κ 0) (f (i + 1).toNat) (f (i + 2).toNat))) rfl ?_
    refine g_iload (pc := 1072) dL_law_1072 rfl ?_
    refine g_c_eq (tgt := 1079) (pc := 1074) dL_law_1074 (by omega) (by decide) (fun _ => ?_) (fun c9 => absurd rfl c9)
    refine g_iload (pc := 1079) dL_law_1079 rfl ?_
    refine g_z_ne (tgt := 1096) (pc := 1081) dL_law_1081 (by omega) (by decide) (fun _ => ?_) (fun c9 => absurd c9 hc)
    refine g_goto (tgt := 1561) (pc := 1096) dL_law_1096 (by decide) ?_
    refine G.drop 6 (G.drop 5 ?_)
    simp only [List.set_cons_succ, List.set_cons_zero]
    exact hB _ _ _ (hK) (rel_th (hR))
set_option maxRecDepth 20000 in
set_option maxHeartbeats 400000 in
theorem lc_17 {n : Nat} {f : Nat → Int} {i : Int} {κ : KT} {ν : NT} {o : Nat → Int} {bc bs : Nat} {Q : (Option MV) ⊕ String → List MC → Prop} (hf : ∀ j, -2147483648 ≤ f j ∧ f j < 2147483648) (h_i : 0 ≤ i ∧ i + 3 < n ∧ n < 2147483648) (hK : KInv κ) (hR : Rel κ ν) (hB : LB n f i bc bs Q) : G M_L_law (some (n, f)) false false 1099 [some (vR SCR), some (vR 0), some (vR 79), some (vR 87), some (vI i), none, none] [] (cW κ (dE ν) o) (bc + 2) (bs + 12) Q := by
  have hN := ninv_of hK hR
  have e0 : n_st ν = k_ms κ 0 := hR.1
  refine g_aload_n (i := 1) (pc := 1099) dL_law_1099 rfl rfl ?_
  refine g_aload_n (i := 0) (pc := 1100) dL_law_1100 rfl rfl ?_
  refine g_iload (pc := 1101) dL_law_1101 rfl ?_
  refine g_iconst (pc := 1103) dL_law_1103 ?_
  refine g_iadd (pc := 1104) dL_law_1104 ?_
  refine g_sld (pc := 1105) rfl dL_law_1105 (by omega) ?_
  refine g_aload_n (i := 0) (pc := 1106) dL_law_1106 rfl rfl ?_
  refine g_iload (pc := 1107) dL_law_1107 rfl ?_
  refine g_iconst (pc := 1109) dL_law_1109 ?_
  refine g_iadd (pc := 1110) dL_law_1110 ?_
  refine g_sld (pc := 1111) rfl dL_law_1111 (by omega) ?_
  refine g_aload_n (i := 3) (pc := 1112) dL_law_1112 rfl rfl ?_
  refine g_callSX (pc := 1113) (as := [vR 0, vI (f (i + 1).toNat), vI (f (i + 2).toNat), vR 87]) (bc' := 2) (bs' := 12) okS_L_wouldDo (by decide) l_L_149 dL_law_1113 rfl (Nat.le_of_ble_eq_true rfl) (by decide) (Nat.le_of_ble_eq_true rfl) ⟨by omega, by omega⟩ (t_L_wouldDo (κ := κ) (δ := dE ν) (o := o) hK (hf _) (hf _)) (fun h => nomatch h) (fun r w' h => ?_) (fun E w' h => nomatch h.1)
  obtain ⟨h1, h2⟩ := h
  obtain rfl := Sum.inl.inj h1
  subst h2
  simp only [Option.toList, List.cons_append, List.nil_append]
  refine G.bud (bc := bc) (bs := bs) ?_ (by omega) (by omega)
  have hr9 : 0 ≤ xc_wd (k_ms κ 0) (f (i + 1).toNat) (f (i + 2).toNat) ∧ xc_wd (k_ms κ 0) (f (i + 1).toNat) (f (i + 2).toNat) ≤ 1 := by unfold xc_wd; (repeat' split) <;> omega
  refine g_istore (pc := 1116) dL_law_1116 (by decide) rfl ?_
  simp only [List.set_cons_succ, List.set_cons_zero]
  by_cases hc : xc_wd (k_ms κ 0) (f (i + 1).toNat) (f (i + 2).toNat) = 0
  · refine G.eqw (w' := cW (κ) (dE ν) (va_up o 0 (wr (oc (k_ms κ 0) (f (i + 1).toNat) (f (i + 2).toNat))))) (by rw [if_pos hc, if_pos hc]) ?_
    refine g_aload_n (i := 2) (pc := 1118) dL_law_1118 rfl rfl ?_
    refine g_aload_n (i := 0) (pc := 1119) dL_law_1119 rfl rfl ?_
    refine g_iload (pc := 1120) dL_law_1120 rfl ?_
    refine g_iconst (pc := 1122) dL_law_1122 ?_
    refine g_iadd (pc := 1123) dL_law_1123 ?_
    refine g_sld (pc := 1124) rfl dL_law_1124 (by omega) ?_
    refine g_aload_n (i := 0) (pc := 1125) dL_law_1125 rfl rfl ?_
    refine g_iload (pc := 1126) dL_law_1126 rfl ?_
    refine g_iconst (pc := 1128) dL_law_1128 ?_
    refine g_iadd (pc := 1129) dL_law_1129 ?_
    refine g_sld (pc := 1130) rfl dL_law_1130 (by omega) ?_
    refine g_v2 (pc := 1131) okV_X4_wouldDo rfl l_L_151 dL_law_1131 c_79 hc_4 (by decide) (by decide) (Nat.le_of_ble_eq_true rfl) (nr_0 (v' := oc (k_ms κ 0) (f (i + 1).toNat) (f (i + 2).toNat)) (t_X4_wouldDo (κ := (κ)) (ν := ν) (o := (va_up o 0 (wr (oc (k_ms κ 0) (f (i + 1).toNat) (f (i + 2).toNat))))) (al := false) hN (hf _) (hf _)) (by rw [e0]; exact hc) (by rw [e0])) (by simp only [c_len]) ?_
    simp only [Option.toList, List.cons_append, List.nil_append]
    refine g_istore (pc := 1134) dL_law_1134 (by decide) rfl ?_
    simp only [List.set_cons_succ, List.set_cons_zero]
    refine g_aload_n (i := 2) (pc := 1136) dL_law_1136 rfl rfl ?_
    refine g_v0 (pc := 1137) okV_X4_thrown rfl l_L_91 dL_law_1137 c_79 hc_4 (by decide) (by decide) (Nat.le_of_ble_eq_true rfl) (t_X4_thrown (ν := n_setth (ν) 0)) rfl ?_
    simp only [Option.toList, List.cons_append, List.nil_append]
    refine G.eqS (v' := vI (0)) rfl ?_
    refine g_iload (pc := 1140) dL_law_1140 rfl ?_
    refine g_c_eq (tgt := 1147) (pc := 1142) dL_law_1142 (by omega) (by decide) (fun _ => ?_) (fun c9 => absurd hc.symm c9)
    refine g_iload (pc := 1147) dL_law_1147 rfl ?_
    refine g_z_ne (tgt := 1164) (pc := 1149) dL_law_1149 (by omega) (by decide) (fun c9 => absurd hc c9) (fun _ => ?_)
    refine g_aload_n (i := 3) (pc := 1152) dL_law_1152 rfl rfl ?_
    refine g_iconst (pc := 1153) dL_law_1153 ?_
    refine g_lald (pc := 1154) dL_law_1154 c_87 (by decide) ?_
    refine G.eqS (v' := vL (wr (oc (k_ms κ 0) (f (i + 1).toNat) (f (i + 2).toNat)))) (congrArg (fun z => vL z) (up_s _ _ _)) ?_
    refine g_iload (pc := 1155) dL_law_1155 rfl ?_
    refine g_wr ?_
    have hw9 := wr_rng (oc (k_ms κ 0) (f (i + 1).toNat) (f (i + 2).toNat))
    refine g_i2l (pc := 1157) dL_law_1157 hw9 ?_
    refine g_lcmp (pc := 1158) dL_law_1158 (by omega) (by omega) ?_
    refine g_z_eq (tgt := 1164) (pc := 1159) dL_law_1159 (by rw [bcmp_0]; decide) (by decide) (fun _ => ?_) (fun c9 => absurd (bcmp_0 _) c9)
    refine g_goto (tgt := 1561) (pc := 1164) dL_law_1164 (by decide) ?_
    refine G.drop 6 (G.drop 5 ?_)
    simp only [List.set_cons_succ, List.set_cons_zero]
    exact hB _ _ _ (hK) (rel_th (hR))
  · refine G.eqw (w' := cW κ (dE ν) o) (by rw [if_neg hc, if_neg hc]) ?_
    refine g_aload_n (i := 2) (pc := 1118) dL_law_1118 rfl rfl ?_
    refine g_aload_n (i := 0) (pc := 1119) dL_law_1119 rfl rfl ?_
    refine g_iload (pc := 1120) dL_law_1120 rfl ?_
    refine g_iconst (pc := 1122) dL_law_1122 ?_
    refine g_iadd (pc := 1123) dL_law_1123 ?_
    refine g_sld (pc := 1124) rfl dL_law_1124 (by omega) ?_
    refine g_aload_n (i := 0) (pc := 1125) dL_law_1125 rfl rfl ?_
    refine g_iload (pc := 1126) dL_law_1126 rfl ?_
    refine g_iconst (pc := 1128) dL_law_1128 ?_
    refine g_iadd (pc := 1129) dL_law_1129 ?_
    refine g_sld (pc := 1130) rfl dL_law_1130 (by omega) ?_
    refine g_v2 (pc := 1131) okV_X4_wouldDo rfl l_L_151 dL_law_1131 c_79 hc_4 (by decide) (by decide) (Nat.le_of_ble_eq_true rfl) (nr_1 (k := xc_wd (k_ms κ 0) (f (i + 1).toNat) (f (i + 2).toNat)) (t_X4_wouldDo (κ := κ) (ν := ν) (o := o) (al := false) hN (hf _) (hf _)) (by rw [e0]) hc) (by simp only [c_len]) ?_
    simp only [Option.toList, List.cons_append, List.nil_append]
    refine g_istore (pc := 1134) dL_law_1134 (by decide) rfl ?_
    simp only [List.set_cons_succ, List.set_cons_zero]
    refine g_aload_n (i := 2) (pc := 1136) dL_law_1136 rfl rfl ?_
    refine g_v0 (pc := 1137) okV_X4_thrown rfl l_L_91 dL_law_1137 c_79 hc_4 (by decide) (by decide) (Nat.le_of_ble_eq_true rfl) (t_X4_thrown (ν := n_setth ν (xc_wd (k_ms κ 0) (f (i + 1).toNat) (f (i + 2).toNat)))) rfl ?_
    simp only [Option.toList, List.cons_append, List.nil_append]
    refine G.eqS (v' := vI (xc_wd (k_ms κ 0) (f (i + 1).toNat) (f (i + 2).toNat))) rfl ?_
    refine g_iload (pc := 1140) dL_law_1140 rfl ?_
    refine g_c_eq (tgt := 1147) (pc := 1142) dL_law_1142 (by omega) (by decide) (fun _ => ?_) (fun c9 => absurd rfl c9)
    refine g_iload (pc := 1147) dL_law_1147 rfl ?_
    refine g_z_ne (tgt := 1164) (pc := 1149) dL_law_1149 (by omega) (by decide) (fun _ => ?_) (fun c9 => absurd c9 hc)
    refine g_goto (tgt := 1561) (pc := 1164) dL_law_1164 (by decide) ?_
    refine G.drop 6 (G.drop 5 ?_)
    simp only [List.set_cons_succ, List.set_cons_zero]
    exact hB _ _ _ (hK) (rel_th (hR))
set_option maxRecDepth 20000 in
set_option maxHeartbeats 400000 in
theorem lc_18 {n : Nat} {f : Nat → Int} {i : Int} {κ : KT} {ν : NT} {o : Nat → Int} {bc bs : Nat} {Q : (Option MV) ⊕ String → List MC → Prop} (hf : ∀ j, -2147483648 ≤ f j ∧ f j < 2147483648) (h_i : 0 ≤ i ∧ i + 3 < n ∧ n < 2147483648) (hK : KInv κ) (hR : Rel κ ν) (hB : LB n f i bc bs Q) : G M_L_law (some (n, f)) false false 1167 [some (vR SCR), some (vR 0), some (vR 79), some (vR 87), some (vI i), none, none] [] (cW κ (dE ν) o) (bc + 2) (bs + 12) Q := by
  have hN := ninv_of hK hR
  have e0 : n_st ν = k_ms κ 0 := hR.1
  refine g_aload_n (i := 1) (pc := 1167) dL_law_1167 rfl rfl ?_
  refine g_callV (pc := 1168) (as := []) (bc' := 0) (bs' := 0) okV_X3_marriages rfl l_L_152 dL_law_1168 c_0 hc_3 rfl (by decide) (by decide) (Nat.le_of_ble_eq_true rfl) ⟨by omega, by omega⟩ (t_X3_marriages (δ := dE ν) (o := o) hK) (fun h => nomatch h) (fun r w' h => ?_) (fun E w' h => nomatch h.1)
  obtain ⟨h1, τ, hτ, rfl⟩ := h
  obtain rfl := Sum.inl.inj h1
  simp only [Option.toList, List.cons_append, List.nil_append]
  refine G.bud (bc := bc) (bs := bs) ?_ (by omega) (by omega)
  have hr9 := cmv_rng (k_ms κ 0)
  refine g_aload_n (i := 2) (pc := 1171) dL_law_1171 rfl rfl ?_
  refine g_v0 (pc := 1172) okV_X4_marriages rfl l_L_155 dL_law_1172 c_79 hc_4 (by decide) (by decide) (Nat.le_of_ble_eq_true rfl) (t_X4_marriages (κ := (k_setms κ 1 τ)) (ν := ν) (o := o) (al := false) hN) (by simp only [c_len]) ?_
  simp only [Option.toList, List.cons_append, List.nil_append]
  refine G.eqS (v' := vI (cmv (k_ms κ 0))) (congrArg (fun z => vI z) (by rw [e0])) ?_
  refine g_c_eq (tgt := 1561) (pc := 1175) dL_law_1175 (by omega) (by decide) (fun _ => ?_) (fun c9 => absurd rfl c9)
  exact hB _ _ _ (kinv_ms hK hτ) (rel_th (rel_ke (rel_m1 hR)))
set_option maxRecDepth 20000 in
set_option maxHeartbeats 400000 in
theorem lc_19 {n : Nat} {f : Nat → Int} {i : Int} {κ : KT} {ν : NT} {o : Nat → Int} {bc bs : Nat} {Q : (Option MV) ⊕ String → List MC → Prop} (hf : ∀ j, -2147483648 ≤ f j ∧ f j < 2147483648) (h_i : 0 ≤ i ∧ i + 3 < n ∧ n < 2147483648) (hK : KInv κ) (hR : Rel κ ν) (hB : LB n f i bc bs Q) : G M_L_law (some (n, f)) false false 1180 [some (vR SCR), some (vR 0), some (vR 79), some (vR 87), some (vI i), none, none] [] (cW κ (dE ν) o) (bc + 2) (bs + 12) Q := by
  have hN := ninv_of hK hR
  have e0 : n_st ν = k_ms κ 0 := hR.1
  refine g_aload_n (i := 1) (pc := 1180) dL_law_1180 rfl rfl ?_
  refine g_callV (pc := 1181) (as := []) (bc' := 0) (bs' := 0) okV_X3_mostFree rfl l_L_156 dL_law_1181 c_0 hc_3 rfl (by decide) (by decide) (Nat.le_of_ble_eq_true rfl) ⟨by omega, by omega⟩ (t_X3_mostFree (δ := dE ν) (o := o) hK) (fun h => nomatch h) (fun r w' h => ?_) (fun E w' h => nomatch h.1)
  obtain ⟨h1, τ, hτ, rfl⟩ := h
  obtain rfl := Sum.inl.inj h1
  simp only [Option.toList, List.cons_append, List.nil_append]
  refine G.bud (bc := bc) (bs := bs) ?_ (by omega) (by omega)
  have hr9 := nff_rng (s_pre (k_ms κ 0) 32)
  refine g_aload_n (i := 2) (pc := 1184) dL_law_1184 rfl rfl ?_
  refine g_v0 (pc := 1185) okV_X4_mostFree rfl l_L_159 dL_law_1185 c_79 hc_4 (by decide) (by decide) (Nat.le_of_ble_eq_true rfl) (t_X4_mostFree (κ := (k_setms κ 1 τ)) (ν := ν) (o := o) (al := false) hN) (by simp only [c_len]) ?_
  simp only [Option.toList, List.cons_append, List.nil_append]
  refine G.eqS (v' := vI (nff (s_pre (k_ms κ 0) 32))) (congrArg (fun z => vI z) (by rw [e0])) ?_
  refine g_c_eq (tgt := 1561) (pc := 1188) dL_law_1188 (by omega) (by decide) (fun _ => ?_) (fun c9 => absurd rfl c9)
  exact hB _ _ _ (kinv_ms hK hτ) (rel_th (rel_ke (rel_m1 hR)))
set_option maxRecDepth 20000 in
set_option maxHeartbeats 400000 in
theorem lc_20 {n : Nat} {f : Nat → Int} {i : Int} {κ : KT} {ν : NT} {o : Nat → Int} {bc bs : Nat} {Q : (Option MV) ⊕ String → List MC → Prop} (hf : ∀ j, -2147483648 ≤ f j ∧ f j < 2147483648) (h_i : 0 ≤ i ∧ i + 3 < n ∧ n < 2147483648) (hK : KInv κ) (hR : Rel κ ν) (hB : LB n f i bc bs Q) : G M_L_law (some (n, f)) false false 1193 [some (vR SCR), some (vR 0), some (vR 79), some (vR 87), some (vI i), none, none] [] (cW κ (dE ν) o) (bc + 2) (bs + 12) Q := by
  have hN := ninv_of hK hR
  have e0 : n_st ν = k_ms κ 0 := hR.1
  refine g_aload_n (i := 1) (pc := 1193) dL_law_1193 rfl rfl ?_
  refine g_aload_n (i := 0) (pc := 1194) dL_law_1194 rfl rfl ?_
  refine g_iload (pc := 1195) dL_law_1195 rfl ?_
  refine g_iconst (pc := 1197) dL_law_1197 ?_
  refine g_iadd (pc := 1198) dL_law_1198 ?_
  refine g_sld (pc := 1199) rfl dL_law_1199 (by omega) ?_
  refine g_aload_n (i := 3) (pc := 1200) dL_law_1200 rfl rfl ?_
  refine g_callSX (pc := 1201) (as := [vR 0, vI (f (i + 1).toNat), vR 87]) (bc' := 2) (bs' := 12) okS_L_writable (by decide) l_L_160 dL_law_1201 rfl (Nat.le_of_ble_eq_true rfl) (by decide) (Nat.le_of_ble_eq_true rfl) ⟨by omega, by omega⟩ (t_L_writable (κ := κ) (δ := dE ν) (o := o) hK (hf _)) (fun h => nomatch h) (fun r w' h => ?_) (fun E w' h => nomatch h.1)
  obtain ⟨h1, h2⟩ := h
  obtain rfl := Sum.inl.inj h1
  obtain ⟨τ, hτ, rfl⟩ := h2
  simp only [Option.toList, List.cons_append, List.nil_append]
  refine G.bud (bc := bc) (bs := bs) ?_ (by omega) (by omega)
  have hr9 : 0 ≤ xc_wa (k_ms κ 0) (f (i + 1).toNat) ∧ xc_wa (k_ms κ 0) (f (i + 1).toNat) ≤ 1 := by unfold xc_wa; (repeat' split) <;> omega
  refine g_istore (pc := 1204) dL_law_1204 (by decide) rfl ?_
  simp only [List.set_cons_succ, List.set_cons_zero]
  by_cases hc : xc_wa (k_ms κ 0) (f (i + 1).toNat) = 0
  · refine G.eqw (w' := cW (k_setms κ 1 τ) (dE ν) (va_up o 0 (wr (cwv (k_ms κ 0) (f (i + 1).toNat))))) (by rw [if_pos hc]) ?_
    refine g_aload_n (i := 2) (pc := 1206) dL_law_1206 rfl rfl ?_
    refine g_aload_n (i := 0) (pc := 1207) dL_law_1207 rfl rfl ?_
    refine g_iload (pc := 1208) dL_law_1208 rfl ?_
    refine g_iconst (pc := 1210) dL_law_1210 ?_
    refine g_iadd (pc := 1211) dL_law_1211 ?_
    refine g_sld (pc := 1212) rfl dL_law_1212 (by omega) ?_
    refine g_v1 (pc := 1213) okV_X4_writable rfl l_L_162 dL_law_1213 c_79 hc_4 (by decide) (by decide) (Nat.le_of_ble_eq_true rfl) (nr_0 (v' := cwv (k_ms κ 0) (f (i + 1).toNat)) (t_X4_writable (κ := (k_setms κ 1 τ)) (ν := ν) (o := (va_up o 0 (wr (cwv (k_ms κ 0) (f (i + 1).toNat))))) (al := false) hN (hf _)) (by rw [e0]; exact hc) (by rw [e0])) (by simp only [c_len]) ?_
    simp only [Option.toList, List.cons_append, List.nil_append]
    refine g_istore (pc := 1216) dL_law_1216 (by decide) rfl ?_
    simp only [List.set_cons_succ, List.set_cons_zero]
    refine g_aload_n (i := 2) (pc := 1218) dL_law_1218 rfl rfl ?_
    refine g_v0 (pc := 1219) okV_X4_thrown rfl l_L_91 dL_law_1219 c_79 hc_4 (by decide) (by decide) (Nat.le_of_ble_eq_true rfl) (t_X4_thrown (ν := n_setth (n_setke ν (n_st ν)) 0)) rfl ?_
    simp only [Option.toList, List.cons_append, List.nil_append]
    refine G.eqS (v' := vI (0)) rfl ?_
    refine g_iload (pc := 1222) dL_law_1222 rfl ?_
    refine g_c_eq (tgt := 1229) (pc := 1224) dL_law_1224 (by omega) (by decide) (fun _ => ?_) (fun c9 => absurd hc.symm c9)
    refine g_iload (pc := 1229) dL_law_1229 rfl ?_
    refine g_z_ne (tgt := 1246) (pc := 1231) dL_law_1231 (by omega) (by decide) (fun c9 => absurd hc c9) (fun _ => ?_)
    refine g_aload_n (i := 3) (pc := 1234) dL_law_1234 rfl rfl ?_
    refine g_iconst (pc := 1235) dL_law_1235 ?_
    refine g_lald (pc := 1236) dL_law_1236 c_87 (by decide) ?_
    refine G.eqS (v' := vL (wr (cwv (k_ms κ 0) (f (i + 1).toNat)))) (congrArg (fun z => vL z) (up_s _ _ _)) ?_
    refine g_iload (pc := 1237) dL_law_1237 rfl ?_
    refine g_wr ?_
    have hw9 := wr_rng (cwv (k_ms κ 0) (f (i + 1).toNat))
    refine g_i2l (pc := 1239) dL_law_1239 hw9 ?_
    refine g_lcmp (pc := 1240) dL_law_1240 (by omega) (by omega) ?_
    refine g_z_eq (tgt := 1246) (pc := 1241) dL_law_1241 (by rw [bcmp_0]; decide) (by decide) (fun _ => ?_) (fun c9 => absurd (bcmp_0 _) c9)
    refine g_goto (tgt := 1561) (pc := 1246) dL_law_1246 (by decide) ?_
    refine G.drop 6 (G.drop 5 ?_)
    simp only [List.set_cons_succ, List.set_cons_zero]
    exact hB _ _ _ (kinv_ms hK hτ) (rel_th (rel_ke (rel_m1 hR)))
  · refine G.eqw (w' := cW (k_setms κ 1 τ) (dE ν) o) (by rw [if_neg hc]) ?_
    refine g_aload_n (i := 2) (pc := 1206) dL_law_1206 rfl rfl ?_
    refine g_aload_n (i := 0) (pc := 1207) dL_law_1207 rfl rfl ?_
    refine g_iload (pc := 1208) dL_law_1208 rfl ?_
    refine g_iconst (pc := 1210) dL_law_1210 ?_
    refine g_iadd (pc := 1211) dL_law_1211 ?_
    refine g_sld (pc := 1212) rfl dL_law_1212 (by omega) ?_
    refine g_v1 (pc := 1213) okV_X4_writable rfl l_L_162 dL_law_1213 c_79 hc_4 (by decide) (by decide) (Nat.le_of_ble_eq_true rfl) (nr_1 (k := xc_wa (k_ms κ 0) (f (i + 1).toNat)) (t_X4_writable (κ := (k_setms κ 1 τ)) (ν := ν) (o := o) (al := false) hN (hf _)) (by rw [e0]) hc) (by simp only [c_len]) ?_
    simp only [Option.toList, List.cons_append, List.nil_append]
    refine g_istore (pc := 1216) dL_law_1216 (by decide) rfl ?_
    simp only [List.set_cons_succ, List.set_cons_zero]
    refine g_aload_n (i := 2) (pc := 1218) dL_law_1218 rfl rfl ?_
    refine g_v0 (pc := 1219) okV_X4_thrown rfl l_L_91 dL_law_1219 c_79 hc_4 (by decide) (by decide) (Nat.le_of_ble_eq_true rfl) (t_X4_thrown (ν := n_setth ν (xc_wa (k_ms κ 0) (f (i + 1).toNat)))) rfl ?_
    simp only [Option.toList, List.cons_append, List.nil_append]
    refine G.eqS (v' := vI (xc_wa (k_ms κ 0) (f (i + 1).toNat))) rfl ?_
    refine g_iload (pc := 1222) dL_law_1222 rfl ?_
    refine g_c_eq (tgt := 1229) (pc := 1224) dL_law_1224 (by omega) (by decide) (fun _ => ?_) (fun c9 => absurd rfl c9)
    refine g_iload (pc := 1229) dL_law_1229 rfl ?_
    refine g_z_ne (tgt := 1246) (pc := 1231) dL_law_1231 (by omega) (by decide) (fun _ => ?_) (fun c9 => absurd c9 hc)
    refine g_goto (tgt := 1561) (pc := 1246) dL_law_1246 (by decide) ?_
    refine G.drop 6 (G.drop 5 ?_)
    simp only [List.set_cons_succ, List.set_cons_zero]
    exact hB _ _ _ (kinv_ms hK hτ) (rel_th (rel_m1 hR))
set_option maxRecDepth 20000 in
set_option maxHeartbeats 400000 in
theorem lc_21 {n : Nat} {f : Nat → Int} {i : Int} {κ : KT} {ν : NT} {o : Nat → Int} {bc bs : Nat} {Q : (Option MV) ⊕ String → List MC → Prop} (hf : ∀ j, -2147483648 ≤ f j ∧ f j < 2147483648) (h_i : 0 ≤ i ∧ i + 3 < n ∧ n < 2147483648) (hK : KInv κ) (hR : Rel κ ν) (hB : LB n f i bc bs Q) : G M_L_law (some (n, f)) false false 1249 [some (vR SCR), some (vR 0), some (vR 79), some (vR 87), some (vI i), none, none] [] (cW κ (dE ν) o) (bc + 2) (bs + 12) Q := by
  have hN := ninv_of hK hR
  have e0 : n_st ν = k_ms κ 0 := hR.1
  refine g_aload_n (i := 1) (pc := 1249) dL_law_1249 rfl rfl ?_
  refine g_aload_n (i := 0) (pc := 1250) dL_law_1250 rfl rfl ?_
  refine g_iload (pc := 1251) dL_law_1251 rfl ?_
  refine g_iconst (pc := 1253) dL_law_1253 ?_
  refine g_iadd (pc := 1254) dL_law_1254 ?_
  refine g_sld (pc := 1255) rfl dL_law_1255 (by omega) ?_
  refine g_aload_n (i := 0) (pc := 1256) dL_law_1256 rfl rfl ?_
  refine g_iload (pc := 1257) dL_law_1257 rfl ?_
  refine g_iconst (pc := 1259) dL_law_1259 ?_
  refine g_iadd (pc := 1260) dL_law_1260 ?_
  refine g_sld (pc := 1261) rfl dL_law_1261 (by omega) ?_
  refine g_i2l (pc := 1262) dL_law_1262 (hf _) ?_
  refine g_bipush (pc := 1263) dL_law_1263 (by decide) ?_
  refine g_lshl (pc := 1265) dL_law_1265 ?_
  refine g_aload_n (i := 0) (pc := 1266) dL_law_1266 rfl rfl ?_
  refine g_iload (pc := 1267) dL_law_1267 rfl ?_
  refine g_iconst (pc := 1269) dL_law_1269 ?_
  refine g_iadd (pc := 1270) dL_law_1270 ?_
  refine g_sld (pc := 1271) rfl dL_law_1271 (by omega) ?_
  refine g_i2l (pc := 1272) dL_law_1272 (hf _) ?_
  refine g_ldc2 (n := 4294967295) (pc := 1273) co_L_163 dL_law_1273 rfl ?_
  refine g_land (pc := 1276) dL_law_1276 ?_
  refine g_lor (pc := 1277) dL_law_1277 ?_
  refine g_aload_n (i := 3) (pc := 1278) dL_law_1278 rfl rfl ?_
  refine g_callSX (pc := 1279) (as := [vR 0, vI (f (i + 1).toNat), vL (b_orL (b_shlL (f (i + 2).toNat) 32) (b_andL (f (i + 3).toNat) 4294967295)), vR 87]) (bc' := 2) (bs' := 12) okS_L_runScript (by decide) l_L_165 dL_law_1279 rfl (Nat.le_of_ble_eq_true rfl) (by decide) (Nat.le_of_ble_eq_true rfl) ⟨by omega, by omega⟩ (t_L_runScript (κ := κ) (δ := dE ν) (o := o) hK (hf _) (orL_rng _ _)) (fun h => nomatch h) (fun r w' h => ?_) (fun E w' h => nomatch h.1)
  obtain ⟨h1, h2⟩ := h
  obtain rfl := Sum.inl.inj h1
  obtain ⟨τ, hτ, rfl⟩ := h2
  simp only [Option.toList, List.cons_append, List.nil_append]
  refine G.bud (bc := bc) (bs := bs) ?_ (by omega) (by omega)
  have hr9 : 0 ≤ xc_ru (f (i + 1).toNat) (b_orL (b_shlL (f (i + 2).toNat) 32) (b_andL (f (i + 3).toNat) 4294967295)) ∧ xc_ru (f (i + 1).toNat) (b_orL (b_shlL (f (i + 2).toNat) 32) (b_andL (f (i + 3).toNat) 4294967295)) ≤ 1 := by unfold xc_ru; (repeat' split) <;> omega
  refine g_istore (pc := 1282) dL_law_1282 (by decide) rfl ?_
  simp only [List.set_cons_succ, List.set_cons_zero]
  by_cases hc : xc_ru (f (i + 1).toNat) (b_orL (b_shlL (f (i + 2).toNat) 32) (b_andL (f (i + 3).toNat) 4294967295)) = 0
  · refine G.eqw (w' := cW (k_setms κ 1 τ) (dE ν) (va_up o 0 (wr (ruv (k_ms κ 0) (f (i + 1).toNat) (b_orL (b_shlL (f (i + 2).toNat) 32) (b_andL (f (i + 3).toNat) 4294967295)))))) (by rw [if_pos hc]) ?_
    refine g_aload_n (i := 2) (pc := 1284) dL_law_1284 rfl rfl ?_
    refine g_aload_n (i := 0) (pc := 1285) dL_law_1285 rfl rfl ?_
    refine g_iload (pc := 1286) dL_law_1286 rfl ?_
    refine g_iconst (pc := 1288) dL_law_1288 ?_
    refine g_iadd (pc := 1289) dL_law_1289 ?_
    refine g_sld (pc := 1290) rfl dL_law_1290 (by omega) ?_
    refine g_aload_n (i := 0) (pc := 1291) dL_law_1291 rfl rfl ?_
    refine g_iload (pc := 1292) dL_law_1292 rfl ?_
    refine g_iconst (pc := 1294) dL_law_1294 ?_
    refine g_iadd (pc := 1295) dL_law_1295 ?_
    refine g_sld (pc := 1296) rfl dL_law_1296 (by omega) ?_
    refine g_i2l (pc := 1297) dL_law_1297 (hf _) ?_
    refine g_bipush (pc := 1298) dL_law_1298 (by decide) ?_
    refine g_lshl (pc := 1300) dL_law_1300 ?_
    refine g_aload_n (i := 0) (pc := 1301) dL_law_1301 rfl rfl ?_
    refine g_iload (pc := 1302) dL_law_1302 rfl ?_
    refine g_iconst (pc := 1304) dL_law_1304 ?_
    refine g_iadd (pc := 1305) dL_law_1305 ?_
    refine g_sld (pc := 1306) rfl dL_law_1306 (by omega) ?_
    refine g_i2l (pc := 1307) dL_law_1307 (hf _) ?_
    refine g_ldc2 (n := 4294967295) (pc := 1308) co_L_163 dL_law_1308 rfl ?_
    refine g_land (pc := 1311) dL_law_1311 ?_
    refine g_lor (pc := 1312) dL_law_1312 ?_
    refine g_vv (pc := 1313) (as := [vI (f (i + 1).toNat), vL (b_orL (b_shlL (f (i + 2).toNat) 32) (b_andL (f (i + 3).toNat) 4294967295))]) okV_X4_runScript rfl l_L_168 dL_law_1313 c_79 hc_4 rfl (Nat.le_of_ble_eq_true rfl) (by decide) (Nat.le_of_ble_eq_true rfl) (nr_0 (v' := ruv (k_ms κ 0) (f (i + 1).toNat) (b_orL (b_shlL (f (i + 2).toNat) 32) (b_andL (f (i + 3).toNat) 4294967295))) (t_X4_runScript (κ := (k_setms κ 1 τ)) (ν := ν) (o := (va_up o 0 (wr (ruv (k_ms κ 0) (f (i + 1).toNat) (b_orL (b_shlL (f (i + 2).toNat) 32) (b_andL (f (i + 3).toNat) 4294967295)))))) (al := false) hN (hf _) (orL_rng _ _)) hc (by rw [e0])) (by simp only [c_len]) ?_
    simp only [Option.toList, List.cons_append, List.nil_append]
    refine g_istore (pc := 1316) dL_law_1316 (by decide) rfl ?_
    simp only [List.set_cons_succ, List.set_cons_zero]
    refine g_aload_n (i := 2) (pc := 1318) dL_law_1318 rfl rfl ?_
    refine g_v0 (pc := 1319) okV_X4_thrown rfl l_L_91 dL_law_1319 c_79 hc_4 (by decide) (by decide) (Nat.le_of_ble_eq_true rfl) (t_X4_thrown (ν := n_setth (n_setsk ν (n_st ν)) 0)) rfl ?_
    simp only [Option.toList, List.cons_append, List.nil_append]
    refine G.eqS (v' := vI (0)) rfl ?_
    refine g_iload (pc := 1322) dL_law_1322 rfl ?_
    refine g_c_eq (tgt := 1329) (pc := 1324) dL_law_1324 (by omega) (by decide) (fun _ => ?_) (fun c9 => absurd hc.symm c9)
    refine g_iload (pc := 1329) dL_law_1329 rfl ?_
    refine g_z_ne (tgt := 1346) (pc := 1331) dL_law_1331 (by omega) (by decide) (fun c9 => absurd hc c9) (fun _ => ?_)
    refine g_aload_n (i := 3) (pc := 1334) dL_law_1334 rfl rfl ?_
    refine g_iconst (pc := 1335) dL_law_1335 ?_
    refine g_lald (pc := 1336) dL_law_1336 c_87 (by decide) ?_
    refine G.eqS (v' := vL (wr (ruv (k_ms κ 0) (f (i + 1).toNat) (b_orL (b_shlL (f (i + 2).toNat) 32) (b_andL (f (i + 3).toNat) 4294967295))))) (congrArg (fun z => vL z) (up_s _ _ _)) ?_
    refine g_iload (pc := 1337) dL_law_1337 rfl ?_
    refine g_wr ?_
    have hw9 := wr_rng (ruv (k_ms κ 0) (f (i + 1).toNat) (b_orL (b_shlL (f (i + 2).toNat) 32) (b_andL (f (i + 3).toNat) 4294967295)))
    refine g_i2l (pc := 1339) dL_law_1339 hw9 ?_
    refine g_lcmp (pc := 1340) dL_law_1340 (by omega) (by omega) ?_
    refine g_z_eq (tgt := 1346) (pc := 1341) dL_law_1341 (by rw [bcmp_0]; decide) (by decide) (fun _ => ?_) (fun c9 => absurd (bcmp_0 _) c9)
    refine g_goto (tgt := 1561) (pc := 1346) dL_law_1346 (by decide) ?_
    refine G.drop 6 (G.drop 5 ?_)
    simp only [List.set_cons_succ, List.set_cons_zero]
    exact hB _ _ _ (kinv_ms hK hτ) (rel_th (rel_sk (rel_m1 hR)))
  · refine G.eqw (w' := cW (k_setms κ 1 τ) (dE ν) o) (by rw [if_neg hc]) ?_
    refine g_aload_n (i := 2) (pc := 1284) dL_law_1284 rfl rfl ?_
    refine g_aload_n (i := 0) (pc := 1285) dL_law_1285 rfl rfl ?_
    refine g_iload (pc := 1286) dL_law_1286 rfl ?_
    refine g_iconst (pc := 1288) dL_law_1288 ?_
    refine g_iadd (pc := 1289) dL_law_1289 ?_
    refine g_sld (pc := 1290) rfl dL_law_1290 (by omega) ?_
    refine g_aload_n (i := 0) (pc := 1291) dL_law_1291 rfl rfl ?_
    refine g_iload (pc := 1292) dL_law_1292 rfl ?_
    refine g_iconst (pc := 1294) dL_law_1294 ?_
    refine g_iadd (pc := 1295) dL_law_1295 ?_
    refine g_sld (pc := 1296) rfl dL_law_1296 (by omega) ?_
    refine g_i2l (pc := 1297) dL_law_1297 (hf _) ?_
    refine g_bipush (pc := 1298) dL_law_1298 (by decide) ?_
    refine g_lshl (pc := 1300) dL_law_1300 ?_
    refine g_aload_n (i := 0) (pc := 1301) dL_law_1301 rfl rfl ?_
    refine g_iload (pc := 1302) dL_law_1302 rfl ?_
    refine g_iconst (pc := 1304) dL_law_1304 ?_
    refine g_iadd (pc := 1305) dL_law_1305 ?_
    refine g_sld (pc := 1306) rfl dL_law_1306 (by omega) ?_
    refine g_i2l (pc := 1307) dL_law_1307 (hf _) ?_
    refine g_ldc2 (n := 4294967295) (pc := 1308) co_L_163 dL_law_1308 rfl ?_
    refine g_land (pc := 1311) dL_law_1311 ?_
    refine g_lor (pc := 1312) dL_law_1312 ?_
    refine g_vv (pc := 1313) (as := [vI (f (i + 1).toNat), vL (b_orL (b_shlL (f (i + 2).toNat) 32) (b_andL (f (i + 3).toNat) 4294967295))]) okV_X4_runScript rfl l_L_168 dL_law_1313 c_79 hc_4 rfl (Nat.le_of_ble_eq_true rfl) (by decide) (Nat.le_of_ble_eq_true rfl) (nr_1 (k := xc_ru (f (i + 1).toNat) (b_orL (b_shlL (f (i + 2).toNat) 32) (b_andL (f (i + 3).toNat) 4294967295))) (t_X4_runScript (κ := (k_setms κ 1 τ)) (ν := ν) (o := o) (al := false) hN (hf _) (orL_rng _ _)) rfl hc) (by simp only [c_len]) ?_
    simp only [Option.toList, List.cons_append, List.nil_append]
    refine g_istore (pc := 1316) dL_law_1316 (by decide) rfl ?_
    simp only [List.set_cons_succ, List.set_cons_zero]
    refine g_aload_n (i := 2) (pc := 1318) dL_law_1318 rfl rfl ?_
    refine g_v0 (pc := 1319) okV_X4_thrown rfl l_L_91 dL_law_1319 c_79 hc_4 (by decide) (by decide) (Nat.le_of_ble_eq_true rfl) (t_X4_thrown (ν := n_setth ν (xc_ru (f (i + 1).toNat) (b_orL (b_shlL (f (i + 2).toNat) 32) (b_andL (f (i + 3).toNat) 4294967295))))) rfl ?_
    simp only [Option.toList, List.cons_append, List.nil_append]
    refine G.eqS (v' := vI (xc_ru (f (i + 1).toNat) (b_orL (b_shlL (f (i + 2).toNat) 32) (b_andL (f (i + 3).toNat) 4294967295)))) rfl ?_
    refine g_iload (pc := 1322) dL_law_1322 rfl ?_
    refine g_c_eq (tgt := 1329) (pc := 1324) dL_law_1324 (by omega) (by decide) (fun _ => ?_) (fun c9 => absurd rfl c9)
    refine g_iload (pc := 1329) dL_law_1329 rfl ?_
    refine g_z_ne (tgt := 1346) (pc := 1331) dL_law_1331 (by omega) (by decide) (fun _ => ?_) (fun c9 => absurd c9 hc)
    refine g_goto (tgt := 1561) (pc := 1346) dL_law_1346 (by decide) ?_
    refine G.drop 6 (G.drop 5 ?_)
    simp only [List.set_cons_succ, List.set_cons_zero]
    exact hB _ _ _ (kinv_ms hK hτ) (rel_th (rel_m1 hR))
set_option maxRecDepth 20000 in
set_option maxHeartbeats 400000 in
theorem lc_22 {n : Nat} {f : Nat → Int} {i : Int} {κ : KT} {ν : NT} {o : Nat → Int} {bc bs : Nat} {Q : (Option MV) ⊕ String → List MC → Prop} (hf : ∀ j, -2147483648 ≤ f j ∧ f j < 2147483648) (h_i : 0 ≤ i ∧ i + 3 < n ∧ n < 2147483648) (hK : KInv κ) (hR : Rel κ ν) (hB : LB n f i bc bs Q) : G M_L_law (some (n, f)) false false 1349 [some (vR SCR), some (vR 0), some (vR 79), some (vR 87), some (vI i), none, none] [] (cW κ (dE ν) o) (bc + 2) (bs + 12) Q := by
  have hN := ninv_of hK hR
  have e0 : n_st ν = k_ms κ 0 := hR.1
  refine g_aload_n (i := 1) (pc := 1349) dL_law_1349 rfl rfl ?_
  refine g_aload_n (i := 0) (pc := 1350) dL_law_1350 rfl rfl ?_
  refine g_iload (pc := 1351) dL_law_1351 rfl ?_
  refine g_iconst (pc := 1353) dL_law_1353 ?_
  refine g_iadd (pc := 1354) dL_law_1354 ?_
  refine g_sld (pc := 1355) rfl dL_law_1355 (by omega) ?_
  refine g_i2l (pc := 1356) dL_law_1356 (hf _) ?_
  refine g_bipush (pc := 1357) dL_law_1357 (by decide) ?_
  refine g_lshl (pc := 1359) dL_law_1359 ?_
  refine g_aload_n (i := 0) (pc := 1360) dL_law_1360 rfl rfl ?_
  refine g_iload (pc := 1361) dL_law_1361 rfl ?_
  refine g_iconst (pc := 1363) dL_law_1363 ?_
  refine g_iadd (pc := 1364) dL_law_1364 ?_
  refine g_sld (pc := 1365) rfl dL_law_1365 (by omega) ?_
  refine g_i2l (pc := 1366) dL_law_1366 (hf _) ?_
  refine g_ldc2 (n := 4294967295) (pc := 1367) co_L_163 dL_law_1367 rfl ?_
  refine g_land (pc := 1370) dL_law_1370 ?_
  refine g_lor (pc := 1371) dL_law_1371 ?_
  refine g_aload_n (i := 0) (pc := 1372) dL_law_1372 rfl rfl ?_
  refine g_iload (pc := 1373) dL_law_1373 rfl ?_
  refine g_iconst (pc := 1375) dL_law_1375 ?_
  refine g_iadd (pc := 1376) dL_law_1376 ?_
  refine g_sld (pc := 1377) rfl dL_law_1377 (by omega) ?_
  refine g_aload_n (i := 3) (pc := 1378) dL_law_1378 rfl rfl ?_
  refine g_callSX (pc := 1379) (as := [vR 0, vL (b_orL (b_shlL (f (i + 1).toNat) 32) (b_andL (f (i + 2).toNat) 4294967295)), vI (f (i + 3).toNat), vR 87]) (bc' := 2) (bs' := 12) okS_L_simulate (by decide) l_L_169 dL_law_1379 rfl (Nat.le_of_ble_eq_true rfl) (by decide) (Nat.le_of_ble_eq_true rfl) ⟨by omega, by omega⟩ (t_L_simulate (κ := κ) (δ := dE ν) (o := o) hK (orL_rng _ _) (hf _)) (fun h => nomatch h) (fun r w' h => ?_) (fun E w' h => nomatch h.1)
  obtain ⟨h1, h2⟩ := h
  obtain rfl := Sum.inl.inj h1
  obtain ⟨τ, hτ, rfl⟩ := h2
  simp only [Option.toList, List.cons_append, List.nil_append]
  refine G.bud (bc := bc) (bs := bs) ?_ (by omega) (by omega)
  have hr9 : 0 ≤ xc_si (f (i + 3).toNat) ∧ xc_si (f (i + 3).toNat) ≤ 1 := by unfold xc_si; (repeat' split) <;> omega
  refine g_istore (pc := 1382) dL_law_1382 (by decide) rfl ?_
  simp only [List.set_cons_succ, List.set_cons_zero]
  by_cases hc : xc_si (f (i + 3).toNat) = 0
  · refine G.eqw (w' := cW (k_setms κ 1 τ) (dE ν) (va_up o 0 (wr (siv (k_ms κ 0) (b_orL (b_shlL (f (i + 1).toNat) 32) (b_andL (f (i + 2).toNat) 4294967295)) (f (i + 3).toNat))))) (by rw [if_pos hc]) ?_
    refine g_aload_n (i := 2) (pc := 1384) dL_law_1384 rfl rfl ?_
    refine g_aload_n (i := 0) (pc := 1385) dL_law_1385 rfl rfl ?_
    refine g_iload (pc := 1386) dL_law_1386 rfl ?_
    refine g_iconst (pc := 1388) dL_law_1388 ?_
    refine g_iadd (pc := 1389) dL_law_1389 ?_
    refine g_sld (pc := 1390) rfl dL_law_1390 (by omega) ?_
    refine g_i2l (pc := 1391) dL_law_1391 (hf _) ?_
    refine g_bipush (pc := 1392) dL_law_1392 (by decide) ?_
    refine g_lshl (pc := 1394) dL_law_1394 ?_
    refine g_aload_n (i := 0) (pc := 1395) dL_law_1395 rfl rfl ?_
    refine g_iload (pc := 1396) dL_law_1396 rfl ?_
    refine g_iconst (pc := 1398) dL_law_1398 ?_
    refine g_iadd (pc := 1399) dL_law_1399 ?_
    refine g_sld (pc := 1400) rfl dL_law_1400 (by omega) ?_
    refine g_i2l (pc := 1401) dL_law_1401 (hf _) ?_
    refine g_ldc2 (n := 4294967295) (pc := 1402) co_L_163 dL_law_1402 rfl ?_
    refine g_land (pc := 1405) dL_law_1405 ?_
    refine g_lor (pc := 1406) dL_law_1406 ?_
    refine g_aload_n (i := 0) (pc := 1407) dL_law_1407 rfl rfl ?_
    refine g_iload (pc := 1408) dL_law_1408 rfl ?_
    refine g_iconst (pc := 1410) dL_law_1410 ?_
    refine g_iadd (pc := 1411) dL_law_1411 ?_
    refine g_sld (pc := 1412) rfl dL_law_1412 (by omega) ?_
    refine g_vv (pc := 1413) (as := [vL (b_orL (b_shlL (f (i + 1).toNat) 32) (b_andL (f (i + 2).toNat) 4294967295)), vI (f (i + 3).toNat)]) okV_X4_simulate rfl l_L_172 dL_law_1413 c_79 hc_4 rfl (Nat.le_of_ble_eq_true rfl) (by decide) (Nat.le_of_ble_eq_true rfl) (nr_0 (v' := siv (k_ms κ 0) (b_orL (b_shlL (f (i + 1).toNat) 32) (b_andL (f (i + 2).toNat) 4294967295)) (f (i + 3).toNat)) (t_X4_simulate (κ := (k_setms κ 1 τ)) (ν := ν) (o := (va_up o 0 (wr (siv (k_ms κ 0) (b_orL (b_shlL (f (i + 1).toNat) 32) (b_andL (f (i + 2).toNat) 4294967295)) (f (i + 3).toNat))))) (al := false) hN (orL_rng _ _) (hf _)) hc (by rw [e0])) (by simp only [c_len]) ?_
    simp only [Option.toList, List.cons_append, List.nil_append]
    refine g_istore (pc := 1416) dL_law_1416 (by decide) rfl ?_
    simp only [List.set_cons_succ, List.set_cons_zero]
    refine g_aload_n (i := 2) (pc := 1418) dL_law_1418 rfl rfl ?_
    refine g_v0 (pc := 1419) okV_X4_thrown rfl l_L_91 dL_law_1419 c_79 hc_4 (by decide) (by decide) (Nat.le_of_ble_eq_true rfl) (t_X4_thrown (ν := n_setth (n_setsk ν (n_st ν)) 0)) rfl ?_
    simp only [Option.toList, List.cons_append, List.nil_append]
    refine G.eqS (v' := vI (0)) rfl ?_
    refine g_iload (pc := 1422) dL_law_1422 rfl ?_
    refine g_c_eq (tgt := 1429) (pc := 1424) dL_law_1424 (by omega) (by decide) (fun _ => ?_) (fun c9 => absurd hc.symm c9)
    refine g_iload (pc := 1429) dL_law_1429 rfl ?_
    refine g_z_ne (tgt := 1446) (pc := 1431) dL_law_1431 (by omega) (by decide) (fun c9 => absurd hc c9) (fun _ => ?_)
    refine g_aload_n (i := 3) (pc := 1434) dL_law_1434 rfl rfl ?_
    refine g_iconst (pc := 1435) dL_law_1435 ?_
    refine g_lald (pc := 1436) dL_law_1436 c_87 (by decide) ?_
    refine G.eqS (v' := vL (wr (siv (k_ms κ 0) (b_orL (b_shlL (f (i + 1).toNat) 32) (b_andL (f (i + 2).toNat) 4294967295)) (f (i + 3).toNat)))) (congrArg (fun z => vL z) (up_s _ _ _)) ?_
    refine g_iload (pc := 1437) dL_law_1437 rfl ?_
    refine g_wr ?_
    have hw9 := wr_rng (siv (k_ms κ 0) (b_orL (b_shlL (f (i + 1).toNat) 32) (b_andL (f (i + 2).toNat) 4294967295)) (f (i + 3).toNat))
    refine g_i2l (pc := 1439) dL_law_1439 hw9 ?_
    refine g_lcmp (pc := 1440) dL_law_1440 (by omega) (by omega) ?_
    refine g_z_eq (tgt := 1446) (pc := 1441) dL_law_1441 (by rw [bcmp_0]; decide) (by decide) (fun _ => ?_) (fun c9 => absurd (bcmp_0 _) c9)
    refine g_goto (tgt := 1561) (pc := 1446) dL_law_1446 (by decide) ?_
    refine G.drop 6 (G.drop 5 ?_)
    simp only [List.set_cons_succ, List.set_cons_zero]
    exact hB _ _ _ (kinv_ms hK hτ) (rel_th (rel_sk (rel_m1 hR)))
  · refine G.eqw (w' := cW (k_setms κ 1 τ) (dE ν) o) (by rw [if_neg hc]) ?_
    refine g_aload_n (i := 2) (pc := 1384) dL_law_1384 rfl rfl ?_
    refine g_aload_n (i := 0) (pc := 1385) dL_law_1385 rfl rfl ?_
    refine g_iload (pc := 1386) dL_law_1386 rfl ?_
    refine g_iconst (pc := 1388) dL_law_1388 ?_
    refine g_iadd (pc := 1389) dL_law_1389 ?_
    refine g_sld (pc := 1390) rfl dL_law_1390 (by omega) ?_
    refine g_i2l (pc := 1391) dL_law_1391 (hf _) ?_
    refine g_bipush (pc := 1392) dL_law_1392 (by decide) ?_
    refine g_lshl (pc := 1394) dL_law_1394 ?_
    refine g_aload_n (i := 0) (pc := 1395) dL_law_1395 rfl rfl ?_
    refine g_iload (pc := 1396) dL_law_1396 rfl ?_
    refine g_iconst (pc := 1398) dL_law_1398 ?_
    refine g_iadd (pc := 1399) dL_law_1399 ?_
    refine g_sld (pc := 1400) rfl dL_law_1400 (by omega) ?_
    refine g_i2l (pc := 1401) dL_law_1401 (hf _) ?_
    refine g_ldc2 (n := 4294967295) (pc := 1402) co_L_163 dL_law_1402 rfl ?_
    refine g_land (pc := 1405) dL_law_1405 ?_
    refine g_lor (pc := 1406) dL_law_1406 ?_
    refine g_aload_n (i := 0) (pc := 1407) dL_law_1407 rfl rfl ?_
    refine g_iload (pc := 1408) dL_law_1408 rfl ?_
    refine g_iconst (pc := 1410) dL_law_1410 ?_
    refine g_iadd (pc := 1411) dL_law_1411 ?_
    refine g_sld (pc := 1412) rfl dL_law_1412 (by omega) ?_
    refine g_vv (pc := 1413) (as := [vL (b_orL (b_shlL (f (i + 1).toNat) 32) (b_andL (f (i + 2).toNat) 4294967295)), vI (f (i + 3).toNat)]) okV_X4_simulate rfl l_L_172 dL_law_1413 c_79 hc_4 rfl (Nat.le_of_ble_eq_true rfl) (by decide) (Nat.le_of_ble_eq_true rfl) (nr_1 (k := xc_si (f (i + 3).toNat)) (t_X4_simulate (κ := (k_setms κ 1 τ)) (ν := ν) (o := o) (al := false) hN (orL_rng _ _) (hf _)) rfl hc) (by simp only [c_len]) ?_
    simp only [Option.toList, List.cons_append, List.nil_append]
    refine g_istore (pc := 1416) dL_law_1416 (by decide) rfl ?_
    simp only [List.set_cons_succ, List.set_cons_zero]
    refine g_aload_n (i := 2) (pc := 1418) dL_law_1418 rfl rfl ?_
    refine g_v0 (pc := 1419) okV_X4_thrown rfl l_L_91 dL_law_1419 c_79 hc_4 (by decide) (by decide) (Nat.le_of_ble_eq_true rfl) (t_X4_thrown (ν := n_setth ν (xc_si (f (i + 3).toNat)))) rfl ?_
    simp only [Option.toList, List.cons_append, List.nil_append]
    refine G.eqS (v' := vI (xc_si (f (i + 3).toNat))) rfl ?_
    refine g_iload (pc := 1422) dL_law_1422 rfl ?_
    refine g_c_eq (tgt := 1429) (pc := 1424) dL_law_1424 (by omega) (by decide) (fun _ => ?_) (fun c9 => absurd rfl c9)
    refine g_iload (pc := 1429) dL_law_1429 rfl ?_
    refine g_z_ne (tgt := 1446) (pc := 1431) dL_law_1431 (by omega) (by decide) (fun _ => ?_) (fun c9 => absurd c9 hc)
    refine g_goto (tgt := 1561) (pc := 1446) dL_law_1446 (by decide) ?_
    refine G.drop 6 (G.drop 5 ?_)
    simp only [List.set_cons_succ, List.set_cons_zero]
    exact hB _ _ _ (kinv_ms hK hτ) (rel_th (rel_m1 hR))
set_option maxRecDepth 20000 in
set_option maxHeartbeats 400000 in
theorem lc_23 {n : Nat} {f : Nat → Int} {i : Int} {κ : KT} {ν : NT} {o : Nat → Int} {bc bs : Nat} {Q : (Option MV) ⊕ String → List MC → Prop} (hf : ∀ j, -2147483648 ≤ f j ∧ f j < 2147483648) (h_i : 0 ≤ i ∧ i + 3 < n ∧ n < 2147483648) (hK : KInv κ) (hR : Rel κ ν) (hB : LB n f i bc bs Q) : G M_L_law (some (n, f)) false false 1449 [some (vR SCR), some (vR 0), some (vR 79), some (vR 87), some (vI i), none, none] [] (cW κ (dE ν) o) (bc + 2) (bs + 12) Q := by
  have hN := ninv_of hK hR
  have e0 : n_st ν = k_ms κ 0 := hR.1
  refine g_aload_n (i := 1) (pc := 1449) dL_law_1449 rfl rfl ?_
  refine g_aload_n (i := 0) (pc := 1450) dL_law_1450 rfl rfl ?_
  refine g_iload (pc := 1451) dL_law_1451 rfl ?_
  refine g_iconst (pc := 1453) dL_law_1453 ?_
  refine g_iadd (pc := 1454) dL_law_1454 ?_
  refine g_sld (pc := 1455) rfl dL_law_1455 (by omega) ?_
  refine g_aload_n (i := 3) (pc := 1456) dL_law_1456 rfl rfl ?_
  refine g_callSX (pc := 1457) (as := [vR 0, vI (f (i + 1).toNat), vR 87]) (bc' := 2) (bs' := 12) okS_L_save (by decide) l_L_173 dL_law_1457 rfl (Nat.le_of_ble_eq_true rfl) (by decide) (Nat.le_of_ble_eq_true rfl) ⟨by omega, by omega⟩ (t_L_save (κ := κ) (δ := dE ν) (o := o) hK (hf _)) (fun h => nomatch h) (fun r w' h => ?_) (fun E w' h => nomatch h.1)
  obtain ⟨h1, h2⟩ := h
  obtain rfl := Sum.inl.inj h1
  subst h2
  simp only [Option.toList, List.cons_append, List.nil_append]
  refine G.bud (bc := bc) (bs := bs) ?_ (by omega) (by omega)
  have hr9 : 0 ≤ xc_sv (f (i + 1).toNat) ∧ xc_sv (f (i + 1).toNat) ≤ 1 := by unfold xc_sv; (repeat' split) <;> omega
  refine g_istore (pc := 1460) dL_law_1460 (by decide) rfl ?_
  simp only [List.set_cons_succ, List.set_cons_zero]
  by_cases hc : xc_sv (f (i + 1).toNat) = 0
  · refine G.eqw (w' := cW (xk_sv κ (f (i + 1).toNat)) (dE ν) (va_up o 0 (wr (nff (k_ms κ 0))))) (by rw [if_pos hc, if_pos hc]) ?_
    have hq : 0 ≤ (f (i + 1).toNat) ∧ (f (i + 1).toNat) < 2 := by
      unfold xc_sv at hc
      (repeat' split at hc) <;> omega
    refine g_aload_n (i := 2) (pc := 1462) dL_law_1462 rfl rfl ?_
    refine g_aload_n (i := 0) (pc := 1463) dL_law_1463 rfl rfl ?_
    refine g_iload (pc := 1464) dL_law_1464 rfl ?_
    refine g_iconst (pc := 1466) dL_law_1466 ?_
    refine g_iadd (pc := 1467) dL_law_1467 ?_
    refine g_sld (pc := 1468) rfl dL_law_1468 (by omega) ?_
    refine g_v1 (pc := 1469) okV_X4_save rfl l_L_175 dL_law_1469 c_79 hc_4 (by decide) (by decide) (Nat.le_of_ble_eq_true rfl) (nr_0 (v' := nff (k_ms κ 0)) (t_X4_save (κ := (xk_sv κ (f (i + 1).toNat))) (ν := ν) (o := (va_up o 0 (wr (nff (k_ms κ 0))))) (al := false) hN (hf _)) hc (by rw [e0])) (by simp only [c_len]) ?_
    simp only [Option.toList, List.cons_append, List.nil_append]
    refine g_istore (pc := 1472) dL_law_1472 (by decide) rfl ?_
    simp only [List.set_cons_succ, List.set_cons_zero]
    refine g_aload_n (i := 2) (pc := 1474) dL_law_1474 rfl rfl ?_
    refine g_v0 (pc := 1475) okV_X4_thrown rfl l_L_91 dL_law_1475 c_79 hc_4 (by decide) (by decide) (Nat.le_of_ble_eq_true rfl) (t_X4_thrown (ν := n_setth (n_setsv (n_setsl ν (va_up (n_sl ν) ((f (i + 1).toNat)).toNat (n_st ν))) (va_up (n_sv ν) ((f (i + 1).toNat)).toNat 1)) 0)) rfl ?_
    simp only [Option.toList, List.cons_append, List.nil_append]
    refine G.eqS (v' := vI (0)) rfl ?_
    refine g_iload (pc := 1478) dL_law_1478 rfl ?_
    refine g_c_eq (tgt := 1485) (pc := 1480) dL_law_1480 (by omega) (by decide) (fun _ => ?_) (fun c9 => absurd hc.symm c9)
    refine g_iload (pc := 1485) dL_law_1485 rfl ?_
    refine g_z_ne (tgt := 1502) (pc := 1487) dL_law_1487 (by omega) (by decide) (fun c9 => absurd hc c9) (fun _ => ?_)
    refine g_aload_n (i := 3) (pc := 1490) dL_law_1490 rfl rfl ?_
    refine g_iconst (pc := 1491) dL_law_1491 ?_
    refine g_lald (pc := 1492) dL_law_1492 c_87 (by decide) ?_
    refine G.eqS (v' := vL (wr (nff (k_ms κ 0)))) (congrArg (fun z => vL z) (up_s _ _ _)) ?_
    refine g_iload (pc := 1493) dL_law_1493 rfl ?_
    refine g_wr ?_
    have hw9 := wr_rng (nff (k_ms κ 0))
    refine g_i2l (pc := 1495) dL_law_1495 hw9 ?_
    refine g_lcmp (pc := 1496) dL_law_1496 (by omega) (by omega) ?_
    refine g_z_eq (tgt := 1502) (pc := 1497) dL_law_1497 (by rw [bcmp_0]; decide) (by decide) (fun _ => ?_) (fun c9 => absurd (bcmp_0 _) c9)
    refine g_goto (tgt := 1561) (pc := 1502) dL_law_1502 (by decide) ?_
    refine G.drop 6 (G.drop 5 ?_)
    simp only [List.set_cons_succ, List.set_cons_zero]
    exact hB _ _ _ (kinv_fl (kinv_ms hK (hK.2.2.1 0)) (Or.inr rfl)) (rel_th (rel_sv hR hq))
  · refine G.eqw (w' := cW κ (dE ν) o) (by rw [if_neg hc, if_neg hc]) ?_
    refine g_aload_n (i := 2) (pc := 1462) dL_law_1462 rfl rfl ?_
    refine g_aload_n (i := 0) (pc := 1463) dL_law_1463 rfl rfl ?_
    refine g_iload (pc := 1464) dL_law_1464 rfl ?_
    refine g_iconst (pc := 1466) dL_law_1466 ?_
    refine g_iadd (pc := 1467) dL_law_1467 ?_
    refine g_sld (pc := 1468) rfl dL_law_1468 (by omega) ?_
    refine g_v1 (pc := 1469) okV_X4_save rfl l_L_175 dL_law_1469 c_79 hc_4 (by decide) (by decide) (Nat.le_of_ble_eq_true rfl) (nr_1 (k := xc_sv (f (i + 1).toNat)) (t_X4_save (κ := κ) (ν := ν) (o := o) (al := false) hN (hf _)) rfl hc) (by simp only [c_len]) ?_
    simp only [Option.toList, List.cons_append, List.nil_append]
    refine g_istore (pc := 1472) dL_law_1472 (by decide) rfl ?_
    simp only [List.set_cons_succ, List.set_cons_zero]
    refine g_aload_n (i := 2) (pc := 1474) dL_law_1474 rfl rfl ?_
    refine g_v0 (pc := 1475) okV_X4_thrown rfl l_L_91 dL_law_1475 c_79 hc_4 (by decide) (by decide) (Nat.le_of_ble_eq_true rfl) (t_X4_thrown (ν := n_setth ν (xc_sv (f (i + 1).toNat)))) rfl ?_
    simp only [Option.toList, List.cons_append, List.nil_append]
    refine G.eqS (v' := vI (xc_sv (f (i + 1).toNat))) rfl ?_
    refine g_iload (pc := 1478) dL_law_1478 rfl ?_
    refine g_c_eq (tgt := 1485) (pc := 1480) dL_law_1480 (by omega) (by decide) (fun _ => ?_) (fun c9 => absurd rfl c9)
    refine g_iload (pc := 1485) dL_law_1485 rfl ?_
    refine g_z_ne (tgt := 1502) (pc := 1487) dL_law_1487 (by omega) (by decide) (fun _ => ?_) (fun c9 => absurd c9 hc)
    refine g_goto (tgt := 1561) (pc := 1502) dL_law_1502 (by decide) ?_
    refine G.drop 6 (G.drop 5 ?_)
    simp only [List.set_cons_succ, List.set_cons_zero]
    exact hB _ _ _ (hK) (rel_th (hR))
set_option maxRecDepth 20000 in
set_option maxHeartbeats 400000 in
theorem lc_24 {n : Nat} {f : Nat → Int} {i : Int} {κ : KT} {ν : NT} {o : Nat → Int} {bc bs : Nat} {Q : (Option MV) ⊕ String → List MC → Prop} (hf : ∀ j, -2147483648 ≤ f j ∧ f j < 2147483648) (h_i : 0 ≤ i ∧ i + 3 < n ∧ n < 2147483648) (hK : KInv κ) (hR : Rel κ ν) (hB : LB n f i bc bs Q) : G M_L_law (some (n, f)) false false 1505 [some (vR SCR), some (vR 0), some (vR 79), some (vR 87), some (vI i), none, none] [] (cW κ (dE ν) o) (bc + 2) (bs + 12) Q := by
  have hN := ninv_of hK hR
  have e0 : n_st ν = k_ms κ 0 := hR.1
  refine g_aload_n (i := 1) (pc := 1505) dL_law_1505 rfl rfl ?_
  refine g_aload_n (i := 0) (pc := 1506) dL_law_1506 rfl rfl ?_
  refine g_iload (pc := 1507) dL_law_1507 rfl ?_
  refine g_iconst (pc := 1509) dL_law_1509 ?_
  refine g_iadd (pc := 1510) dL_law_1510 ?_
  refine g_sld (pc := 1511) rfl dL_law_1511 (by omega) ?_
  refine g_aload_n (i := 3) (pc := 1512) dL_law_1512 rfl rfl ?_
  refine g_callSX (pc := 1513) (as := [vR 0, vI (f (i + 1).toNat), vR 87]) (bc' := 2) (bs' := 12) okS_L_restore (by decide) l_L_176 dL_law_1513 rfl (Nat.le_of_ble_eq_true rfl) (by decide) (Nat.le_of_ble_eq_true rfl) ⟨by omega, by omega⟩ (t_L_restore (κ := κ) (δ := dE ν) (o := o) hK (hf _)) (fun h => nomatch h) (fun r w' h => ?_) (fun E w' h => nomatch h.1)
  obtain ⟨h1, h2⟩ := h
  obtain rfl := Sum.inl.inj h1
  subst h2
  simp only [Option.toList, List.cons_append, List.nil_append]
  refine G.bud (bc := bc) (bs := bs) ?_ (by omega) (by omega)
  have hr9 : 0 ≤ xc_rs κ (f (i + 1).toNat) ∧ xc_rs κ (f (i + 1).toNat) ≤ 2 := by unfold xc_rs; (repeat' split) <;> omega
  refine g_istore (pc := 1516) dL_law_1516 (by decide) rfl ?_
  simp only [List.set_cons_succ, List.set_cons_zero]
  by_cases hc : xc_rs κ (f (i + 1).toNat) = 0
  · refine G.eqw (w' := cW (xk_rs κ (f (i + 1).toNat)) (dE ν) (va_up o 0 (wr (nff (k_ms κ (16 + (f (i + 1).toNat).toNat)))))) (by rw [if_pos hc, if_pos hc]) ?_
    have hq : (0 ≤ (f (i + 1).toNat) ∧ (f (i + 1).toNat) < 2) ∧ k_fl κ ((f (i + 1).toNat)).toNat ≠ 0 := by
      unfold xc_rs at hc
      (repeat' split at hc) <;> omega
    refine g_aload_n (i := 2) (pc := 1518) dL_law_1518 rfl rfl ?_
    refine g_aload_n (i := 0) (pc := 1519) dL_law_1519 rfl rfl ?_
    refine g_iload (pc := 1520) dL_law_1520 rfl ?_
    refine g_iconst (pc := 1522) dL_law_1522 ?_
    refine g_iadd (pc := 1523) dL_law_1523 ?_
    refine g_sld (pc := 1524) rfl dL_law_1524 (by omega) ?_
    refine g_v1 (pc := 1525) okV_X4_restore rfl l_L_178 dL_law_1525 c_79 hc_4 (by decide) (by decide) (Nat.le_of_ble_eq_true rfl) (nr_0 (v' := nff (k_ms κ (16 + (f (i + 1).toNat).toNat))) (t_X4_restore (κ := (xk_rs κ (f (i + 1).toNat))) (ν := ν) (o := (va_up o 0 (wr (nff (k_ms κ (16 + (f (i + 1).toNat).toNat)))))) (al := false) hN (hf _)) (by rw [xn_rs_e hR]; exact hc) (congrArg nff (hR.2.2.2.2.1 _ (by omega) (by have := hK.2.2.2.2.2 ((f (i + 1).toNat)).toNat; omega)))) (by simp only [c_len]) ?_
    simp only [Option.toList, List.cons_append, List.nil_append]
    refine g_istore (pc := 1528) dL_law_1528 (by decide) rfl ?_
    simp only [List.set_cons_succ, List.set_cons_zero]
    refine g_aload_n (i := 2) (pc := 1530) dL_law_1530 rfl rfl ?_
    refine g_v0 (pc := 1531) okV_X4_thrown rfl l_L_91 dL_law_1531 c_79 hc_4 (by decide) (by decide) (Nat.le_of_ble_eq_true rfl) (t_X4_thrown (ν := n_setth (n_setre (n_setst ν (n_sl ν ((f (i + 1).toNat)).toNat)) 0) 0)) rfl ?_
    simp only [Option.toList, List.cons_append, List.nil_append]
    refine G.eqS (v' := vI (0)) rfl ?_
    refine g_iload (pc := 1534) dL_law_1534 rfl ?_
    refine g_c_eq (tgt := 1541) (pc := 1536) dL_law_1536 (by omega) (by decide) (fun _ => ?_) (fun c9 => absurd hc.symm c9)
    refine g_iload (pc := 1541) dL_law_1541 rfl ?_
    refine g_z_ne (tgt := 1558) (pc := 1543) dL_law_1543 (by omega) (by decide) (fun c9 => absurd hc c9) (fun _ => ?_)
    refine g_aload_n (i := 3) (pc := 1546) dL_law_1546 rfl rfl ?_
    refine g_iconst (pc := 1547) dL_law_1547 ?_
    refine g_lald (pc := 1548) dL_law_1548 c_87 (by decide) ?_
    refine G.eqS (v' := vL (wr (nff (k_ms κ (16 + (f (i + 1).toNat).toNat))))) (congrArg (fun z => vL z) (up_s _ _ _)) ?_
    refine g_iload (pc := 1549) dL_law_1549 rfl ?_
    refine g_wr ?_
    have hw9 := wr_rng (nff (k_ms κ (16 + (f (i + 1).toNat).toNat)))
    refine g_i2l (pc := 1551) dL_law_1551 hw9 ?_
    refine g_lcmp (pc := 1552) dL_law_1552 (by omega) (by omega) ?_
    refine g_z_eq (tgt := 1558) (pc := 1553) dL_law_1553 (by rw [bcmp_0]; decide) (by decide) (fun _ => ?_) (fun c9 => absurd (bcmp_0 _) c9)
    refine g_goto (tgt := 1561) (pc := 1558) dL_law_1558 (by decide) ?_
    refine G.drop 6 (G.drop 5 ?_)
    simp only [List.set_cons_succ, List.set_cons_zero]
    exact hB _ _ _ (kinv_sz (kinv_ms hK (hK.2.2.1 _)) (by decide)) (rel_th (rel_rs hK hR hq.1 hq.2))
  · refine G.eqw (w' := cW κ (dE ν) o) (by rw [if_neg hc, if_neg hc]) ?_
    refine g_aload_n (i := 2) (pc := 1518) dL_law_1518 rfl rfl ?_
    refine g_aload_n (i := 0) (pc := 1519) dL_law_1519 rfl rfl ?_
    refine g_iload (pc := 1520) dL_law_1520 rfl ?_
    refine g_iconst (pc := 1522) dL_law_1522 ?_
    refine g_iadd (pc := 1523) dL_law_1523 ?_
    refine g_sld (pc := 1524) rfl dL_law_1524 (by omega) ?_
    refine g_v1 (pc := 1525) okV_X4_restore rfl l_L_178 dL_law_1525 c_79 hc_4 (by decide) (by decide) (Nat.le_of_ble_eq_true rfl) (nr_1 (k := xc_rs κ (f (i + 1).toNat)) (t_X4_restore (κ := κ) (ν := ν) (o := o) (al := false) hN (hf _)) (xn_rs_e hR) hc) (by simp only [c_len]) ?_
    simp only [Option.toList, List.cons_append, List.nil_append]
    refine g_istore (pc := 1528) dL_law_1528 (by decide) rfl ?_
    simp only [List.set_cons_succ, List.set_cons_zero]
    refine g_aload_n (i := 2) (pc := 1530) dL_law_1530 rfl rfl ?_
    refine g_v0 (pc := 1531) okV_X4_thrown rfl l_L_91 dL_law_1531 c_79 hc_4 (by decide) (by decide) (Nat.le_of_ble_eq_true rfl) (t_X4_thrown (ν := n_setth ν (xc_rs κ (f (i + 1).toNat)))) rfl ?_
    simp only [Option.toList, List.cons_append, List.nil_append]
    refine G.eqS (v' := vI (xc_rs κ (f (i + 1).toNat))) rfl ?_
    refine g_iload (pc := 1534) dL_law_1534 rfl ?_
    refine g_c_eq (tgt := 1541) (pc := 1536) dL_law_1536 (by omega) (by decide) (fun _ => ?_) (fun c9 => absurd rfl c9)
    refine g_iload (pc := 1541) dL_law_1541 rfl ?_
    refine g_z_ne (tgt := 1558) (pc := 1543) dL_law_1543 (by omega) (by decide) (fun _ => ?_) (fun c9 => absurd c9 hc)
    refine g_goto (tgt := 1561) (pc := 1558) dL_law_1558 (by decide) ?_
    refine G.drop 6 (G.drop 5 ?_)
    simp only [List.set_cons_succ, List.set_cons_zero]
    exact hB _ _ _ (hK) (rel_th (hR))
end ML9
