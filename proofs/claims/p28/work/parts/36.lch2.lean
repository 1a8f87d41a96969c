/-! THE LAW'S WRITES (printed by wip/p28/lch2.py, but for the first rows) -/
section LC8
theorem lsf_us {σ : SG} (h : lsf σ ≠ -1) : uses (s_fr σ) (lsf σ) = 0 := by
  unfold lsf at h ⊢
  by_cases q : lsf1 σ = -1
  · rw [if_pos q] at h ⊢
    rcases ff_cases (fun f => decide (uses (s_fr σ) f = 0)) 32 with ⟨h1, -⟩ | ⟨k, h1, -, h3, -⟩
    · exact absurd h1 h
    · have e : lsf0 σ = k := h1
      rw [e]; exact of_decide_eq_true h3
  · rw [if_neg q] at h ⊢
    rcases ff_cases (fun f => decide (uses (s_fr σ) f = 0) && !(rf σ ((f : Int).tdiv 4))) 32 with ⟨h1, -⟩ | ⟨k, h1, -, h3, -⟩
    · exact absurd h1 h
    · have e : lsf1 σ = k := h1
      rw [Bool.and_eq_true, decide_eq_true_eq] at h3
      rw [e]; exact h3.1
/-- the whole group comes in -/
def whole9 (σ : SG) (p v : Int) : Prop := s_ea σ = 1 ∧ lfr σ ≠ -1 ∧ pf σ p (v.tdiv 4) = 0
theorem oc_f {σ : SG} {p v : Int} (h : oc σ p v ≠ -1) : (oc σ p v = 1 ↔ fo σ p v = -1) := by
  have hpg := oc_pg h
  unfold oc at h ⊢
  rw [if_pos hpg] at h ⊢
  by_cases a : fo σ p v ≠ -1 ∧ ¬ sh σ (fo σ p v) = true
  · rw [if_pos a]; constructor <;> intro z
    · omega
    · exact absurd z a.1
  · rw [if_neg a] at h ⊢
    by_cases b : nff σ = 0
    · rw [if_pos b] at h; exact absurd rfl h
    · rw [if_neg b]
      by_cases c : fo σ p v = -1
      · rw [if_pos c]; exact ⟨fun _ => c, fun _ => rfl⟩
      · rw [if_neg c]
        split <;> exact ⟨fun z => by omega, fun z => absurd z c⟩
theorem w_e0 {σ : SG} {p v : Int} (h : oc σ p v = 0) : s_wri1 σ p v = σ := by
  unfold s_wri1
  rw [if_neg (by omega), if_pos h]
theorem w_e1w {σ : SG} {p v : Int} (h : oc σ p v = 1) (hw : whole9 σ p v) : s_wri1 σ p v = s_addfa (s_who σ p (v.tdiv 4) (lfr σ)) 1 := by
  unfold whole9 at hw
  unfold s_wri1 s_bri
  rw [if_pos h, if_pos hw]
theorem w_e1s {σ : SG} {p v : Int} (h : oc σ p v = 1) (hw : ¬ whole9 σ p v) : s_wri1 σ p v = s_addfa (s_setfr σ (16 * p + v).toNat (lsf σ)) 1 := by
  have h1 := oc_n (σ := σ) (p := p) (v := v) (by omega) (by omega)
  unfold whole9 at hw
  unfold s_wri1 s_bri s_tsf
  rw [if_pos h, if_neg hw, if_neg h1]
theorem w_e2 {σ : SG} {p v : Int} (h : oc σ p v = 2) : s_wri1 σ p v = s_addco (s_setfr σ (16 * p + v).toNat (lsf σ)) 1 := by
  have h1 := oc_n (σ := σ) (p := p) (v := v) (by omega) (by omega)
  have h2 := oc_b (σ := σ) (p := p) (v := v) (by omega)
  unfold s_wri1 s_cop s_tsf
  rw [if_neg (by omega), if_neg (by omega), if_neg (show ¬ big σ p (v.tdiv 4) = true from fun z => by have := h2.mpr z; omega), if_neg h1]
theorem w_e3 {σ : SG} {p v : Int} (h : oc σ p v = 3) : s_wri1 σ p v = s_addco (s_setfr (s_torn σ p (v.tdiv 4)) (16 * p + v).toNat (lsf σ)) 1 := by
  have h1 := oc_n (σ := σ) (p := p) (v := v) (by omega) (by omega)
  have h2 := oc_b (σ := σ) (p := p) (v := v) (by omega)
  have h3 : ¬ lsf (s_torn σ p (v.tdiv 4)) = -1 := h1
  unfold s_wri1 s_cop s_tsf
  rw [if_neg (by omega), if_neg (by omega), if_pos (h2.mp h), if_neg h3]
  rfl
theorem wri1_fo {σ : SG} {p v : Int} (hp : 0 ≤ p ∧ p < 4) (hv : 0 ≤ v ∧ v < 16) (h : oc σ p v ≠ -1) : fo (s_wri1 σ p v) p v ≠ -1 := by
  have hr := oc_rng σ p v
  have hl := lfr_rng σ
  have d9 := Int.tdiv_eq_ediv_of_nonneg (a := v) (b := 4) (by omega)
  have hs : ∀ τ : SG, s_fr τ (16 * p + v).toNat ≠ -1 → fo τ p v ≠ -1 := fun τ z => by rw [fo_in hp hv]; exact z
  rcases (by omega : oc σ p v = 0 ∨ oc σ p v = 1 ∨ oc σ p v = 2 ∨ oc σ p v = 3) with e | e | e | e
  · rw [w_e0 e]; exact oc_0 e
  · by_cases hw : whole9 σ p v
    · rw [w_e1w e hw]
      refine hs _ ?_
      show s_fr (s_wh σ p (v.tdiv 4) (lfr σ) 4) (16 * p + v).toNat ≠ -1
      have hw2 := hw.2.1
      have e2 := wh_in σ (p := p) (g := v.tdiv 4) (lfr σ) hp (by omega) (j := 4) (i := (v % 4).toNat) (by omega) (by omega)
      rw [show (16 * p + (4 * v.tdiv 4 + (((v % 4).toNat : Nat) : Int))).toNat = (16 * p + v).toNat by omega] at e2
      rw [e2]
      omega
    · rw [w_e1s e hw]
      refine hs _ ?_
      show va_up (s_fr σ) (16 * p + v).toNat (lsf σ) (16 * p + v).toNat ≠ -1
      rw [up_s]
      exact oc_n (by omega) (by omega)
  · rw [w_e2 e]
    refine hs _ ?_
    show va_up (s_fr σ) (16 * p + v).toNat (lsf σ) (16 * p + v).toNat ≠ -1
    rw [up_s]
    exact oc_n (by omega) (by omega)
  · rw [w_e3 e]
    refine hs _ ?_
    show va_up (s_fr σ) (16 * p + v).toNat (lsf σ) (16 * p + v).toNat ≠ -1
    rw [up_s]
    exact oc_n (by omega) (by omega)
theorem wh_qf (σ : SG) (p g r : Int) : ∀ j, qf (s_wh σ p g r j) = qf σ
  | 0 => rfl
  | j + 1 => wh_qf σ p g r j
theorem wh_bg (σ : SG) (p g r : Int) : ∀ j, s_bg (s_wh σ p g r j) = s_bg σ
  | 0 => rfl
  | j + 1 => wh_bg σ p g r j
theorem qf_who {σ : SG} (hi : Inv σ) {p g r : Int} (h : (4 * p + g).toNat < 16) : va_up (qf σ) 1 (b_or (bsum (s_bg σ) 16) (b_shl 1 ((4 * p + g).toNat : Int))) = qf (s_who σ p g r) := by
  unfold s_who
  rw [← qf_bg, wh_qf, wh_bg, z_set hi.2.2.1 (by decide) h]
theorem qf_sml2 {σ : SG} (hb : ∀ k, s_bg σ k = 0 ∨ s_bg σ k = 1) {G : Nat} (h : G < 16) : va_up (qf σ) 1 (b_and (bsum (s_bg σ) 16) (b_xor (b_shl 1 G) (-1))) = qf (s_setbg σ G 0) := by rw [z_clr hb (by decide) h, qf_bg]
theorem qf_and {σ : SG} (hb : ∀ k, s_bg σ k = 0 ∨ s_bg σ k = 1) : va_up (qf σ) 1 (b_and (bsum (s_bg σ) 16) (-1)) = qf σ := by
  have h1 := bsum_rng hb 16
  rw [b_andm _ (by omega)]
  exact up_id rfl
theorem pf_no {σ : SG} {p g : Int} (h : pf σ p g = 0) {i : Nat} (hi : i < 4) : fo σ p (4 * g + i) = -1 := by
  have h1 := ct_zero.mp h i hi
  rcases Int.decEq (fo σ p (4 * g + i)) (-1) with z | z
  · exact absurd (decide_eq_true z) h1
  · exact z
theorem addte_0 (σ : SG) : s_addte σ 0 = σ := by unfold s_addte; rw [Int.add_zero]
set_option maxRecDepth 20000 in
set_option maxHeartbeats 600000 in
theorem t_L_writes {w : List MC} {a : Nat} {σ : SG} {al : Bool} (hw : okL w a) (hi : Inv σ) {k p v : Int} (hk : k = 16 * p + v) (h_p : 0 ≤ p ∧ p < 4) (h_v : 0 ≤ v ∧ v < 16) (hpg : hasPg σ p v = true) {x : Int} (h_x : 0 ≤ x ∧ x < 100) : GM M_L_writes al [vI k, vI x, vR a, vR (a + 1), vR (a + 2)] (setL w a (lawm σ)) 0 0 (dt (some (vI (if oc σ p v = -1 then -3 else oc σ p v))) (setL w a (lawm (if oc σ p v = -1 then σ else s_wri σ p v x)))) := by
  show G _ none _ _ 0 [some (vI k), some (vI x), some (vR a), some (vR (a + 1)), some (vR (a + 2)), none, none, none, none] [] _ _ _ _
  have d9 := Int.tdiv_eq_ediv_of_nonneg (a := v) (b := 4) (by omega)
  have d8 := Int.tdiv_eq_ediv_of_nonneg (a := k) (b := 4) (by omega)
  have he := hi.2.2.2.2.2.2.2.2.1
  have h_e := (ex_pg hpg).1
  refine g_iload_n (i := 0) (pc := 0) dL_writes_0 rfl rfl ?_
  refine g_aload_n (i := 2) (pc := 1) dL_writes_1 rfl rfl ?_
  refine g_aload_n (i := 3) (pc := 2) dL_writes_2 rfl rfl ?_
  refine g_sIRR (pc := 3) okS_L_would rfl l_L_60 dL_writes_3 (by decide) (by decide) (Nat.le_of_ble_eq_true rfl) (t_L_would (σ := σ) (l_at0 hw) (l_at1 hw) hi hk h_p h_v hpg) rfl ?_
  simp only [Option.toList, List.cons_append, List.nil_append]
  have or9 := oc_rng σ p v
  refine g_istore (pc := 6) dL_writes_6 (by decide) rfl ?_
  simp only [List.set_cons_succ, List.set_cons_zero]
  refine g_iload (pc := 8) dL_writes_8 rfl ?_
  refine g_z_ge (tgt := 16) (pc := 10) dL_writes_10 (by omega) (by decide) (fun c10 => ?_) (fun c10 => ?_)
  · skip
    have h_o : oc σ p v ≠ -1 := by omega
    have h_f := oc_f h_o
    have h_l := @oc_n σ p v h_o
    have l_r := lsf_rng σ
    have h_3 := @oc_b σ p v
    refine g_iload_n (i := 0) (pc := 16) dL_writes_16 rfl rfl ?_
    refine g_aload_n (i := 3) (pc := 17) dL_writes_17 rfl rfl ?_
    refine g_sIR (pc := 18) okS_L_frame rfl l_L_46 dL_writes_18 (by decide) (by decide) (Nat.le_of_ble_eq_true rfl) (t_L_frame (σ := σ) (l_at1 hw) hi (by omega)) rfl ?_
    simp only [Option.toList, List.cons_append, List.nil_append]
    refine G.eqS (congrArg (fun z => vI z) (fo_k (σ := σ) hk h_p h_v)) ?_
    have bf := fo_rng hi p v
    refine g_istore (pc := 21) dL_writes_21 (by decide) rfl ?_
    simp only [List.set_cons_succ, List.set_cons_zero]
    refine g_iload (pc := 23) dL_writes_23 rfl ?_
    refine g_iconst (pc := 25) dL_writes_25 ?_
    refine g_c_ne (tgt := 119) (pc := 26) dL_writes_26 (by omega) (by decide) (fun c26 => ?_) (fun c26 => ?_)
    · skip
      refine g_iload (pc := 119) dL_writes_119 rfl ?_
      refine g_z_le (tgt := 156) (pc := 121) dL_writes_121 (by omega) (by decide) (fun c121 => ?_) (fun c121 => ?_)
      · skip
        refine g_aload_n (i := 2) (pc := 156) dL_writes_156 rfl rfl ?_
        refine g_iconst (pc := 157) dL_writes_157 ?_
        refine g_dup2 (pc := 158) dL_writes_158 (fun z h => nomatch h) (fun z h => nomatch h) ?_
        refine g_iald (pc := 159) dL_writes_159 ((l_at0 hw)) (by omega) ?_
        refine G.eqS (v' := vI (s_fa σ)) rfl ?_
        refine g_iload (pc := 160) dL_writes_160 rfl ?_
        refine g_iconst (pc := 162) dL_writes_162 ?_
        refine g_c_ne (tgt := 170) (pc := 163) dL_writes_163 (by omega) (by decide) (fun c163 => ?_) (fun c163 => absurd c163 (by omega))
        refine g_iconst (pc := 170) dL_writes_170 ?_
        refine g_iadd (pc := 171) dL_writes_171 ?_
        refine g_iast (pc := 172) dL_writes_172 (l_at0 hw) (by omega) ?_
        refine G.eqw (l_set0 hw) ?_
        refine G.eqw (w' := setL w a (lawm (s_addfa σ 0))) (setL_eq (qf_fa σ 0) rfl rfl) ?_
        refine g_aload_n (i := 2) (pc := 173) dL_writes_173 rfl rfl ?_
        refine g_iconst (pc := 174) dL_writes_174 ?_
        refine g_dup2 (pc := 175) dL_writes_175 (fun z h => nomatch h) (fun z h => nomatch h) ?_
        refine g_iald (pc := 176) dL_writes_176 ((l_at0 hw)) (by omega) ?_
        refine G.eqS (v' := vI (s_co (s_addfa σ 0))) rfl ?_
        refine g_iload (pc := 177) dL_writes_177 rfl ?_
        refine g_iconst (pc := 179) dL_writes_179 ?_
        refine g_c_le (tgt := 187) (pc := 180) dL_writes_180 (by omega) (by decide) (fun c180 => ?_) (fun c180 => absurd c180 (by omega))
        refine g_iconst (pc := 187) dL_writes_187 ?_
        refine g_iadd (pc := 188) dL_writes_188 ?_
        refine g_iast (pc := 189) dL_writes_189 (l_at0 hw) (by omega) ?_
        refine G.eqw (l_set0 hw) ?_
        refine G.eqw (w' := setL w a (lawm (s_addco (s_addfa σ 0) 0))) (setL_eq (qf_co (s_addfa σ 0) 0) rfl rfl) ?_
        refine g_aload_n (i := 2) (pc := 190) dL_writes_190 rfl rfl ?_
        refine g_iconst (pc := 191) dL_writes_191 ?_
        refine g_dup2 (pc := 192) dL_writes_192 (fun z h => nomatch h) (fun z h => nomatch h) ?_
        refine g_iald (pc := 193) dL_writes_193 ((l_at0 hw)) (by omega) ?_
        refine G.eqS (v' := vI (s_te (s_addco (s_addfa σ 0) 0))) rfl ?_
        refine g_iload (pc := 194) dL_writes_194 rfl ?_
        refine g_iconst (pc := 196) dL_writes_196 ?_
        refine g_c_ne (tgt := 204) (pc := 197) dL_writes_197 (by omega) (by decide) (fun c197 => ?_) (fun c197 => absurd c197 (by omega))
        refine g_iconst (pc := 204) dL_writes_204 ?_
        refine g_iadd (pc := 205) dL_writes_205 ?_
        refine g_iast (pc := 206) dL_writes_206 (l_at0 hw) (by omega) ?_
        refine G.eqw (l_set0 hw) ?_
        refine G.eqw (w' := setL w a (lawm (s_addte (s_addco (s_addfa σ 0) 0) 0))) (setL_eq (qf_te (s_addco (s_addfa σ 0) 0) 0) rfl rfl) ?_
        refine g_aload_n (i := 2) (pc := 207) dL_writes_207 rfl rfl ?_
        refine g_iconst (pc := 208) dL_writes_208 ?_
        refine g_dup2 (pc := 209) dL_writes_209 (fun z h => nomatch h) (fun z h => nomatch h) ?_
        refine g_iald (pc := 210) dL_writes_210 ((l_at0 hw)) (by omega) ?_
        refine G.eqS (v' := vI (bsum (s_bg (s_addte (s_addco (s_addfa σ 0) 0) 0)) 16)) rfl ?_
        refine g_iload (pc := 211) dL_writes_211 rfl ?_
        refine g_iconst (pc := 213) dL_writes_213 ?_
        refine g_c_ne (tgt := 227) (pc := 214) dL_writes_214 (by omega) (by decide) (fun c214 => ?_) (fun c214 => absurd c214 (by omega))
        refine g_iconst (pc := 227) dL_writes_227 ?_
        refine g_iand (pc := 228) dL_writes_228 ?_
        refine g_iast (pc := 229) dL_writes_229 (l_at0 hw) (by omega) ?_
        refine G.eqw (l_set0 hw) ?_
        refine G.eqw (w' := setL w a (lawm (s_addte (s_addco (s_addfa σ 0) 0) 0))) (setL_eq (qf_and (σ := (s_addte (s_addco (s_addfa σ 0) 0) 0)) hi.2.2.1) rfl rfl) ?_
        have eT : (s_addte (s_addco (s_addfa σ 0) 0) 0) = s_wri1 σ p v := by
          rw [(w_e0 (by omega))]
          try rw [addfa_0]
          try rw [addte_0]
          try rw [addco_0]
          try rfl
        refine G.eqw (congrArg (fun z => setL w a (lawm z)) eT) ?_
        refine g_aload (pc := 230) dL_writes_230 rfl ?_
        refine g_iload_n (i := 0) (pc := 232) dL_writes_232 rfl rfl ?_
        refine g_aload_n (i := 3) (pc := 233) dL_writes_233 rfl rfl ?_
        refine g_sIR (pc := 234) okS_L_frame rfl l_L_46 dL_writes_234 (by decide) (by decide) (Nat.le_of_ble_eq_true rfl) (t_L_frame (σ := s_wri1 σ p v) (l_at1 hw) (inv_wri1 hi h_o) (by omega)) rfl ?_
        simp only [Option.toList, List.cons_append, List.nil_append]
        have bw := fo_rng (inv_wri1 hi h_o) p v
        have bz := wri1_fo h_p h_v h_o
        refine G.eqS (congrArg (fun z => vI z) (fo_k (σ := s_wri1 σ p v) hk h_p h_v)) ?_
        refine g_iload_n (i := 1) (pc := 237) dL_writes_237 rfl rfl ?_
        refine g_iast (pc := 238) dL_writes_238 (l_at2 hw) (by omega) ?_
        refine G.eqw (l_set2 hw) ?_
        refine g_iload (pc := 239) dL_writes_239 rfl ?_
        refine g_iret (pc := 241) rfl dL_writes_241 (fun h => h) ?_
        refine dt_i (by rw [if_neg h_o]) ?_
        rw [if_neg h_o]
        unfold s_wri
        rw [if_neg (wri1_fo h_p h_v h_o)]
        rfl
      · skip
        have h_l1 : lsf σ ≠ -1 := h_l (by omega)
        skip
        refine g_aload_n (i := 3) (pc := 124) dL_writes_124 rfl rfl ?_
        refine g_sR (pc := 125) okS_L_single rfl l_L_57 dL_writes_125 (by decide) (by decide) (Nat.le_of_ble_eq_true rfl) (t_L_single (σ := σ) (l_at1 hw) hi) rfl ?_
        simp only [Option.toList, List.cons_append, List.nil_append]
        have bb := lsf_rng σ
        refine g_istore (pc := 128) dL_writes_128 (by decide) rfl ?_
        simp only [List.set_cons_succ, List.set_cons_zero]
        refine g_aload_n (i := 3) (pc := 130) dL_writes_130 rfl rfl ?_
        refine g_iload (pc := 131) dL_writes_131 rfl ?_
        refine g_lconst (z := 1) (pc := 133) dL_writes_133 rfl ?_
        refine g_iload_n (i := 0) (pc := 134) dL_writes_134 rfl rfl ?_
        skip
        refine g_lshl (pc := 135) dL_writes_135 ?_
        refine G.eqS (v' := vL (b_shlL 1 (((16 * p + v).toNat : Nat) : Int))) (congrArg (fun z => vL (b_shlL 1 z)) (by omega)) ?_
        refine g_last (pc := 136) dL_writes_136 (l_at1 hw) (by omega) ?_
        refine G.eqw (l_set1 hw) ?_
        refine g_iload (pc := 137) dL_writes_137 rfl ?_
        refine g_z_lt (tgt := 156) (pc := 139) dL_writes_139 (by omega) (by decide) (fun c139 => absurd c139 (by omega)) (fun c139 => ?_)
        refine g_aload_n (i := 3) (pc := 142) dL_writes_142 rfl rfl ?_
        refine g_iload (pc := 143) dL_writes_143 rfl ?_
        refine g_dup2 (pc := 145) dL_writes_145 (fun z h => nomatch h) (fun z h => nomatch h) ?_
        refine g_lald (pc := 146) dL_writes_146 ((l_at1 hw)) (by omega) ?_
        refine g_lconst (z := 1) (pc := 147) dL_writes_147 rfl ?_
        refine g_iload_n (i := 0) (pc := 148) dL_writes_148 rfl rfl ?_
        refine g_lshl (pc := 149) dL_writes_149 ?_
        refine G.eqS (v' := vL (b_shlL 1 (((16 * p + v).toNat : Nat) : Int))) (congrArg (fun z => vL (b_shlL 1 z)) (by omega)) ?_
        refine g_ldc2 (n := -1) (pc := 150) co_L_64 dL_writes_150 rfl ?_
        refine g_lxor (pc := 153) dL_writes_153 ?_
        refine g_land (pc := 154) dL_writes_154 ?_
        refine g_last (pc := 155) dL_writes_155 (l_at1 hw) (by omega) ?_
        refine G.eqw (l_set1 hw) ?_
        refine G.eqw (w' := setL w a (lawm (s_setfr σ (16 * p + v).toNat (lsf σ)))) (setL_eq rfl ?_ rfl) ?_
        · have f9 : s_fr σ (16 * p + v).toNat = (((fo σ p v).toNat : Nat) : Int) := by rw [← fo_in h_p h_v]; omega
          refine (um_wr1 (fr := s_fr σ) (k := (16 * p + v).toNat) (f := (fo σ p v).toNat) (t := (lsf σ).toNat) (by omega) f9 (by rw [Int.toNat_of_nonneg (by omega)]; exact lsf_us (by omega))).trans ?_
          show um (va_up (s_fr σ) (16 * p + v).toNat _) = um (va_up (s_fr σ) (16 * p + v).toNat _)
          rw [Int.toNat_of_nonneg (by omega)]
        refine g_aload_n (i := 2) (pc := 156) dL_writes_156 rfl rfl ?_
        refine g_iconst (pc := 157) dL_writes_157 ?_
        refine g_dup2 (pc := 158) dL_writes_158 (fun z h => nomatch h) (fun z h => nomatch h) ?_
        refine g_iald (pc := 159) dL_writes_159 ((l_at0 hw)) (by omega) ?_
        refine G.eqS (v' := vI (s_fa (s_setfr σ (16 * p + v).toNat (lsf σ)))) rfl ?_
        refine g_iload (pc := 160) dL_writes_160 rfl ?_
        refine g_iconst (pc := 162) dL_writes_162 ?_
        refine g_c_ne (tgt := 170) (pc := 163) dL_writes_163 (by omega) (by decide) (fun c163 => ?_) (fun c163 => absurd c163 (by omega))
        refine g_iconst (pc := 170) dL_writes_170 ?_
        refine g_iadd (pc := 171) dL_writes_171 ?_
        refine g_iast (pc := 172) dL_writes_172 (l_at0 hw) (by omega) ?_
        refine G.eqw (l_set0 hw) ?_
        refine G.eqw (w' := setL w a (lawm (s_addfa (s_setfr σ (16 * p + v).toNat (lsf σ)) 0))) (setL_eq (qf_fa (s_setfr σ (16 * p + v).toNat (lsf σ)) 0) rfl rfl) ?_
        refine g_aload_n (i := 2) (pc := 173) dL_writes_173 rfl rfl ?_
        refine g_iconst (pc := 174) dL_writes_174 ?_
        refine g_dup2 (pc := 175) dL_writes_175 (fun z h => nomatch h) (fun z h => nomatch h) ?_
        refine g_iald (pc := 176) dL_writes_176 ((l_at0 hw)) (by omega) ?_
        refine G.eqS (v' := vI (s_co (s_addfa (s_setfr σ (16 * p + v).toNat (lsf σ)) 0))) rfl ?_
        refine g_iload (pc := 177) dL_writes_177 rfl ?_
        refine g_iconst (pc := 179) dL_writes_179 ?_
        refine g_c_le (tgt := 187) (pc := 180) dL_writes_180 (by omega) (by decide) (fun c180 => absurd c180 (by omega)) (fun c180 => ?_)
        refine g_iconst (pc := 183) dL_writes_183 ?_
        refine g_goto (tgt := 188) (pc := 184) dL_writes_184 (by decide) ?_
        refine g_iadd (pc := 188) dL_writes_188 ?_
        refine g_iast (pc := 189) dL_writes_189 (l_at0 hw) (by omega) ?_
        refine G.eqw (l_set0 hw) ?_
        refine G.eqw (w' := setL w a (lawm (s_addco (s_addfa (s_setfr σ (16 * p + v).toNat (lsf σ)) 0) 1))) (setL_eq (qf_co (s_addfa (s_setfr σ (16 * p + v).toNat (lsf σ)) 0) 1) rfl rfl) ?_
        refine g_aload_n (i := 2) (pc := 190) dL_writes_190 rfl rfl ?_
        refine g_iconst (pc := 191) dL_writes_191 ?_
        refine g_dup2 (pc := 192) dL_writes_192 (fun z h => nomatch h) (fun z h => nomatch h) ?_
        refine g_iald (pc := 193) dL_writes_193 ((l_at0 hw)) (by omega) ?_
        refine G.eqS (v' := vI (s_te (s_addco (s_addfa (s_setfr σ (16 * p + v).toNat (lsf σ)) 0) 1))) rfl ?_
        refine g_iload (pc := 194) dL_writes_194 rfl ?_
        refine g_iconst (pc := 196) dL_writes_196 ?_
        refine g_c_ne (tgt := 204) (pc := 197) dL_writes_197 (by omega) (by decide) (fun c197 => ?_) (fun c197 => ?_)
        · skip
          refine g_iconst (pc := 204) dL_writes_204 ?_
          refine g_iadd (pc := 205) dL_writes_205 ?_
          refine g_iast (pc := 206) dL_writes_206 (l_at0 hw) (by omega) ?_
          refine G.eqw (l_set0 hw) ?_
          refine G.eqw (w' := setL w a (lawm (s_addte (s_addco (s_addfa (s_setfr σ (16 * p + v).toNat (lsf σ)) 0) 1) 0))) (setL_eq (qf_te (s_addco (s_addfa (s_setfr σ (16 * p + v).toNat (lsf σ)) 0) 1) 0) rfl rfl) ?_
          refine g_aload_n (i := 2) (pc := 207) dL_writes_207 rfl rfl ?_
          refine g_iconst (pc := 208) dL_writes_208 ?_
          refine g_dup2 (pc := 209) dL_writes_209 (fun z h => nomatch h) (fun z h => nomatch h) ?_
          refine g_iald (pc := 210) dL_writes_210 ((l_at0 hw)) (by omega) ?_
          refine G.eqS (v' := vI (bsum (s_bg (s_addte (s_addco (s_addfa (s_setfr σ (16 * p + v).toNat (lsf σ)) 0) 1) 0)) 16)) rfl ?_
          refine g_iload (pc := 211) dL_writes_211 rfl ?_
          refine g_iconst (pc := 213) dL_writes_213 ?_
          refine g_c_ne (tgt := 227) (pc := 214) dL_writes_214 (by omega) (by decide) (fun c214 => ?_) (fun c214 => absurd c214 (by omega))
          refine g_iconst (pc := 227) dL_writes_227 ?_
          refine g_iand (pc := 228) dL_writes_228 ?_
          refine g_iast (pc := 229) dL_writes_229 (l_at0 hw) (by omega) ?_
          refine G.eqw (l_set0 hw) ?_
          refine G.eqw (w' := setL w a (lawm (s_addte (s_addco (s_addfa (s_setfr σ (16 * p + v).toNat (lsf σ)) 0) 1) 0))) (setL_eq (qf_and (σ := (s_addte (s_addco (s_addfa (s_setfr σ (16 * p + v).toNat (lsf σ)) 0) 1) 0)) hi.2.2.1) rfl rfl) ?_
          have eT : (s_addte (s_addco (s_addfa (s_setfr σ (16 * p + v).toNat (lsf σ)) 0) 1) 0) = s_wri1 σ p v := by
            rw [(w_e2 (by omega))]
            try rw [addfa_0]
            try rw [addte_0]
            try rw [addco_0]
            try rfl
          refine G.eqw (congrArg (fun z => setL w a (lawm z)) eT) ?_
          refine g_aload (pc := 230) dL_writes_230 rfl ?_
          refine g_iload_n (i := 0) (pc := 232) dL_writes_232 rfl rfl ?_
          refine g_aload_n (i := 3) (pc := 233) dL_writes_233 rfl rfl ?_
          refine g_sIR (pc := 234) okS_L_frame rfl l_L_46 dL_writes_234 (by decide) (by decide) (Nat.le_of_ble_eq_true rfl) (t_L_frame (σ := s_wri1 σ p v) (l_at1 hw) (inv_wri1 hi h_o) (by omega)) rfl ?_
          simp only [Option.toList, List.cons_append, List.nil_append]
          have bw := fo_rng (inv_wri1 hi h_o) p v
          have bz := wri1_fo h_p h_v h_o
          refine G.eqS (congrArg (fun z => vI z) (fo_k (σ := s_wri1 σ p v) hk h_p h_v)) ?_
          refine g_iload_n (i := 1) (pc := 237) dL_writes_237 rfl rfl ?_
          refine g_iast (pc := 238) dL_writes_238 (l_at2 hw) (by omega) ?_
          refine G.eqw (l_set2 hw) ?_
          refine g_iload (pc := 239) dL_writes_239 rfl ?_
          refine g_iret (pc := 241) rfl dL_writes_241 (fun h => h) ?_
          refine dt_i (by rw [if_neg h_o]) ?_
          rw [if_neg h_o]
          unfold s_wri
          rw [if_neg (wri1_fo h_p h_v h_o)]
          rfl
        · skip
          refine g_iconst (pc := 200) dL_writes_200 ?_
          refine g_goto (tgt := 205) (pc := 201) dL_writes_201 (by decide) ?_
          refine g_iadd (pc := 205) dL_writes_205 ?_
          refine g_iast (pc := 206) dL_writes_206 (l_at0 hw) (by omega) ?_
          refine G.eqw (l_set0 hw) ?_
          refine G.eqw (w' := setL w a (lawm (s_addte (s_addco (s_addfa (s_setfr σ (16 * p + v).toNat (lsf σ)) 0) 1) 1))) (setL_eq (qf_te (s_addco (s_addfa (s_setfr σ (16 * p + v).toNat (lsf σ)) 0) 1) 1) rfl rfl) ?_
          refine g_aload_n (i := 2) (pc := 207) dL_writes_207 rfl rfl ?_
          refine g_iconst (pc := 208) dL_writes_208 ?_
          refine g_dup2 (pc := 209) dL_writes_209 (fun z h => nomatch h) (fun z h => nomatch h) ?_
          refine g_iald (pc := 210) dL_writes_210 ((l_at0 hw)) (by omega) ?_
          refine G.eqS (v' := vI (bsum (s_bg (s_addte (s_addco (s_addfa (s_setfr σ (16 * p + v).toNat (lsf σ)) 0) 1) 1)) 16)) rfl ?_
          refine g_iload (pc := 211) dL_writes_211 rfl ?_
          refine g_iconst (pc := 213) dL_writes_213 ?_
          refine g_c_ne (tgt := 227) (pc := 214) dL_writes_214 (by omega) (by decide) (fun c214 => absurd c214 (by omega)) (fun c214 => ?_)
          refine g_iconst (pc := 217) dL_writes_217 ?_
          refine g_iload_n (i := 0) (pc := 218) dL_writes_218 rfl rfl ?_
          refine g_iconst (pc := 219) dL_writes_219 ?_
          refine g_idiv (pc := 220) dL_writes_220 (by omega) (by omega) ?_
          refine G.eqS (v' := vI (((4 * p + v.tdiv 4).toNat : Nat) : Int)) (congrArg (fun z => vI z) (by omega)) ?_
          refine g_ishl (pc := 221) dL_writes_221 ?_
          refine g_iconst (pc := 222) dL_writes_222 ?_
          refine g_ixor (pc := 223) dL_writes_223 ?_
          refine g_goto (tgt := 228) (pc := 224) dL_writes_224 (by decide) ?_
          refine g_iand (pc := 228) dL_writes_228 ?_
          refine g_iast (pc := 229) dL_writes_229 (l_at0 hw) (by omega) ?_
          refine G.eqw (l_set0 hw) ?_
          refine G.eqw (w' := setL w a (lawm (s_setbg (s_addte (s_addco (s_addfa (s_setfr σ (16 * p + v).toNat (lsf σ)) 0) 1) 1) (4 * p + v.tdiv 4).toNat 0))) (setL_eq (qf_sml2 (σ := (s_addte (s_addco (s_addfa (s_setfr σ (16 * p + v).toNat (lsf σ)) 0) 1) 1)) hi.2.2.1 (by omega)) rfl rfl) ?_
          have eT : (s_setbg (s_addte (s_addco (s_addfa (s_setfr σ (16 * p + v).toNat (lsf σ)) 0) 1) 1) (4 * p + v.tdiv 4).toNat 0) = s_wri1 σ p v := by
            rw [(w_e3 (by omega))]
            try rw [addfa_0]
            try rw [addte_0]
            try rw [addco_0]
            try rfl
          refine G.eqw (congrArg (fun z => setL w a (lawm z)) eT) ?_
          refine g_aload (pc := 230) dL_writes_230 rfl ?_
          refine g_iload_n (i := 0) (pc := 232) dL_writes_232 rfl rfl ?_
          refine g_aload_n (i := 3) (pc := 233) dL_writes_233 rfl rfl ?_
          refine g_sIR (pc := 234) okS_L_frame rfl l_L_46 dL_writes_234 (by decide) (by decide) (Nat.le_of_ble_eq_true rfl) (t_L_frame (σ := s_wri1 σ p v) (l_at1 hw) (inv_wri1 hi h_o) (by omega)) rfl ?_
          simp only [Option.toList, List.cons_append, List.nil_append]
          have bw := fo_rng (inv_wri1 hi h_o) p v
          have bz := wri1_fo h_p h_v h_o
          refine G.eqS (congrArg (fun z => vI z) (fo_k (σ := s_wri1 σ p v) hk h_p h_v)) ?_
          refine g_iload_n (i := 1) (pc := 237) dL_writes_237 rfl rfl ?_
          refine g_iast (pc := 238) dL_writes_238 (l_at2 hw) (by omega) ?_
          refine G.eqw (l_set2 hw) ?_
          refine g_iload (pc := 239) dL_writes_239 rfl ?_
          refine g_iret (pc := 241) rfl dL_writes_241 (fun h => h) ?_
          refine dt_i (by rw [if_neg h_o]) ?_
          rw [if_neg h_o]
          unfold s_wri
          rw [if_neg (wri1_fo h_p h_v h_o)]
          rfl
    · skip
      have hoc : oc σ p v = 1 := by omega
      refine g_aload_n (i := 2) (pc := 29) dL_writes_29 rfl rfl ?_
      refine g_bipush (pc := 30) dL_writes_30 (by decide) ?_
      refine g_iald (pc := 32) dL_writes_32 ((l_at0 hw)) (by omega) ?_
      refine G.eqS (v' := vI (s_ea σ)) rfl ?_
      refine g_iconst (pc := 33) dL_writes_33 ?_
      refine g_c_ne (tgt := 119) (pc := 34) dL_writes_34 (by omega) (by decide) (fun c34 => ?_) (fun c34 => ?_)
      · skip
        refine g_iload (pc := 119) dL_writes_119 rfl ?_
        refine g_z_le (tgt := 156) (pc := 121) dL_writes_121 (by omega) (by decide) (fun c121 => absurd c121 (by omega)) (fun c121 => ?_)
        have h_l1 : lsf σ ≠ -1 := h_l (by omega)
        have hwh : ¬ whole9 σ p v := by
          rintro ⟨q1, q2, q3⟩
          have q4 := b2_t (b := decide (pf σ p (v.tdiv 4) = 0)) (decide_eq_true q3)
          omega
        refine g_aload_n (i := 3) (pc := 124) dL_writes_124 rfl rfl ?_
        refine g_sR (pc := 125) okS_L_single rfl l_L_57 dL_writes_125 (by decide) (by decide) (Nat.le_of_ble_eq_true rfl) (t_L_single (σ := σ) (l_at1 hw) hi) rfl ?_
        simp only [Option.toList, List.cons_append, List.nil_append]
        have bb := lsf_rng σ
        refine g_istore (pc := 128) dL_writes_128 (by decide) rfl ?_
        simp only [List.set_cons_succ, List.set_cons_zero]
        refine g_aload_n (i := 3) (pc := 130) dL_writes_130 rfl rfl ?_
        refine g_iload (pc := 131) dL_writes_131 rfl ?_
        refine g_lconst (z := 1) (pc := 133) dL_writes_133 rfl ?_
        refine g_iload_n (i := 0) (pc := 134) dL_writes_134 rfl rfl ?_
        skip
        refine g_lshl (pc := 135) dL_writes_135 ?_
        refine G.eqS (v' := vL (b_shlL 1 (((16 * p + v).toNat : Nat) : Int))) (congrArg (fun z => vL (b_shlL 1 z)) (by omega)) ?_
        refine g_last (pc := 136) dL_writes_136 (l_at1 hw) (by omega) ?_
        refine G.eqw (l_set1 hw) ?_
        refine g_iload (pc := 137) dL_writes_137 rfl ?_
        refine g_z_lt (tgt := 156) (pc := 139) dL_writes_139 (by omega) (by decide) (fun c139 => ?_) (fun c139 => absurd c139 (by omega))
        refine G.eqw (w' := setL w a (lawm (s_setfr σ (16 * p + v).toNat (lsf σ)))) (setL_eq rfl ?_ rfl) ?_
        · have f9 : s_fr σ (16 * p + v).toNat = -1 := by rw [← fo_in h_p h_v]; omega
          refine (um_wr0 (fr := s_fr σ) (k := (16 * p + v).toNat) (t := (lsf σ).toNat) (by omega) f9 (by rw [Int.toNat_of_nonneg (by omega)]; exact lsf_us (by omega))).trans ?_
          show um (va_up (s_fr σ) (16 * p + v).toNat _) = um (va_up (s_fr σ) (16 * p + v).toNat _)
          rw [Int.toNat_of_nonneg (by omega)]
        refine g_aload_n (i := 2) (pc := 156) dL_writes_156 rfl rfl ?_
        refine g_iconst (pc := 157) dL_writes_157 ?_
        refine g_dup2 (pc := 158) dL_writes_158 (fun z h => nomatch h) (fun z h => nomatch h) ?_
        refine g_iald (pc := 159) dL_writes_159 ((l_at0 hw)) (by omega) ?_
        refine G.eqS (v' := vI (s_fa (s_setfr σ (16 * p + v).toNat (lsf σ)))) rfl ?_
        refine g_iload (pc := 160) dL_writes_160 rfl ?_
        refine g_iconst (pc := 162) dL_writes_162 ?_
        refine g_c_ne (tgt := 170) (pc := 163) dL_writes_163 (by omega) (by decide) (fun c163 => absurd c163 (by omega)) (fun c163 => ?_)
        refine g_iconst (pc := 166) dL_writes_166 ?_
        refine g_goto (tgt := 171) (pc := 167) dL_writes_167 (by decide) ?_
        refine g_iadd (pc := 171) dL_writes_171 ?_
        refine g_iast (pc := 172) dL_writes_172 (l_at0 hw) (by omega) ?_
        refine G.eqw (l_set0 hw) ?_
        refine G.eqw (w' := setL w a (lawm (s_addfa (s_setfr σ (16 * p + v).toNat (lsf σ)) 1))) (setL_eq (qf_fa (s_setfr σ (16 * p + v).toNat (lsf σ)) 1) rfl rfl) ?_
        refine g_aload_n (i := 2) (pc := 173) dL_writes_173 rfl rfl ?_
        refine g_iconst (pc := 174) dL_writes_174 ?_
        refine g_dup2 (pc := 175) dL_writes_175 (fun z h => nomatch h) (fun z h => nomatch h) ?_
        refine g_iald (pc := 176) dL_writes_176 ((l_at0 hw)) (by omega) ?_
        refine G.eqS (v' := vI (s_co (s_addfa (s_setfr σ (16 * p + v).toNat (lsf σ)) 1))) rfl ?_
        refine g_iload (pc := 177) dL_writes_177 rfl ?_
        refine g_iconst (pc := 179) dL_writes_179 ?_
        refine g_c_le (tgt := 187) (pc := 180) dL_writes_180 (by omega) (by decide) (fun c180 => ?_) (fun c180 => absurd c180 (by omega))
        refine g_iconst (pc := 187) dL_writes_187 ?_
        refine g_iadd (pc := 188) dL_writes_188 ?_
        refine g_iast (pc := 189) dL_writes_189 (l_at0 hw) (by omega) ?_
        refine G.eqw (l_set0 hw) ?_
        refine G.eqw (w' := setL w a (lawm (s_addco (s_addfa (s_setfr σ (16 * p + v).toNat (lsf σ)) 1) 0))) (setL_eq (qf_co (s_addfa (s_setfr σ (16 * p + v).toNat (lsf σ)) 1) 0) rfl rfl) ?_
        refine g_aload_n (i := 2) (pc := 190) dL_writes_190 rfl rfl ?_
        refine g_iconst (pc := 191) dL_writes_191 ?_
        refine g_dup2 (pc := 192) dL_writes_192 (fun z h => nomatch h) (fun z h => nomatch h) ?_
        refine g_iald (pc := 193) dL_writes_193 ((l_at0 hw)) (by omega) ?_
        refine G.eqS (v' := vI (s_te (s_addco (s_addfa (s_setfr σ (16 * p + v).toNat (lsf σ)) 1) 0))) rfl ?_
        refine g_iload (pc := 194) dL_writes_194 rfl ?_
        refine g_iconst (pc := 196) dL_writes_196 ?_
        refine g_c_ne (tgt := 204) (pc := 197) dL_writes_197 (by omega) (by decide) (fun c197 => ?_) (fun c197 => absurd c197 (by omega))
        refine g_iconst (pc := 204) dL_writes_204 ?_
        refine g_iadd (pc := 205) dL_writes_205 ?_
        refine g_iast (pc := 206) dL_writes_206 (l_at0 hw) (by omega) ?_
        refine G.eqw (l_set0 hw) ?_
        refine G.eqw (w' := setL w a (lawm (s_addte (s_addco (s_addfa (s_setfr σ (16 * p + v).toNat (lsf σ)) 1) 0) 0))) (setL_eq (qf_te (s_addco (s_addfa (s_setfr σ (16 * p + v).toNat (lsf σ)) 1) 0) 0) rfl rfl) ?_
        refine g_aload_n (i := 2) (pc := 207) dL_writes_207 rfl rfl ?_
        refine g_iconst (pc := 208) dL_writes_208 ?_
        refine g_dup2 (pc := 209) dL_writes_209 (fun z h => nomatch h) (fun z h => nomatch h) ?_
        refine g_iald (pc := 210) dL_writes_210 ((l_at0 hw)) (by omega) ?_
        refine G.eqS (v' := vI (bsum (s_bg (s_addte (s_addco (s_addfa (s_setfr σ (16 * p + v).toNat (lsf σ)) 1) 0) 0)) 16)) rfl ?_
        refine g_iload (pc := 211) dL_writes_211 rfl ?_
        refine g_iconst (pc := 213) dL_writes_213 ?_
        refine g_c_ne (tgt := 227) (pc := 214) dL_writes_214 (by omega) (by decide) (fun c214 => ?_) (fun c214 => absurd c214 (by omega))
        refine g_iconst (pc := 227) dL_writes_227 ?_
        refine g_iand (pc := 228) dL_writes_228 ?_
        refine g_iast (pc := 229) dL_writes_229 (l_at0 hw) (by omega) ?_
        refine G.eqw (l_set0 hw) ?_
        refine G.eqw (w' := setL w a (lawm (s_addte (s_addco (s_addfa (s_setfr σ (16 * p + v).toNat (lsf σ)) 1) 0) 0))) (setL_eq (qf_and (σ := (s_addte (s_addco (s_addfa (s_setfr σ (16 * p + v).toNat (lsf σ)) 1) 0) 0)) hi.2.2.1) rfl rfl) ?_
        have eT : (s_addte (s_addco (s_addfa (s_setfr σ (16 * p + v).toNat (lsf σ)) 1) 0) 0) = s_wri1 σ p v := by
          rw [(w_e1s hoc hwh)]
          try rw [addfa_0]
          try rw [addte_0]
          try rw [addco_0]
          try rfl
        refine G.eqw (congrArg (fun z => setL w a (lawm z)) eT) ?_
        refine g_aload (pc := 230) dL_writes_230 rfl ?_
        refine g_iload_n (i := 0) (pc := 232) dL_writes_232 rfl rfl ?_
        refine g_aload_n (i := 3) (pc := 233) dL_writes_233 rfl rfl ?_
        refine g_sIR (pc := 234) okS_L_frame rfl l_L_46 dL_writes_234 (by decide) (by decide) (Nat.le_of_ble_eq_true rfl) (t_L_frame (σ := s_wri1 σ p v) (l_at1 hw) (inv_wri1 hi h_o) (by omega)) rfl ?_
        simp only [Option.toList, List.cons_append, List.nil_append]
        have bw := fo_rng (inv_wri1 hi h_o) p v
        have bz := wri1_fo h_p h_v h_o
        refine G.eqS (congrArg (fun z => vI z) (fo_k (σ := s_wri1 σ p v) hk h_p h_v)) ?_
        refine g_iload_n (i := 1) (pc := 237) dL_writes_237 rfl rfl ?_
        refine g_iast (pc := 238) dL_writes_238 (l_at2 hw) (by omega) ?_
        refine G.eqw (l_set2 hw) ?_
        refine g_iload (pc := 239) dL_writes_239 rfl ?_
        refine g_iret (pc := 241) rfl dL_writes_241 (fun h => h) ?_
        refine dt_i (by rw [if_neg h_o]) ?_
        rw [if_neg h_o]
        unfold s_wri
        rw [if_neg (wri1_fo h_p h_v h_o)]
        rfl
      · skip
        refine g_iload_n (i := 0) (pc := 37) dL_writes_37 rfl rfl ?_
        refine g_iconst (pc := 38) dL_writes_38 ?_
        refine g_idiv (pc := 39) dL_writes_39 (by omega) (by omega) ?_
        refine g_aload_n (i := 3) (pc := 40) dL_writes_40 rfl rfl ?_
        refine g_sIR (pc := 41) okS_L_empty rfl l_L_54 dL_writes_41 (by decide) (by decide) (Nat.le_of_ble_eq_true rfl) (t_L_empty (σ := σ) (p := p) (g := v.tdiv 4) (l_at1 hw) hi (by omega) h_p (by omega)) rfl ?_
        simp only [Option.toList, List.cons_append, List.nil_append]
        have bb := b2_rng (decide (pf σ p (v.tdiv 4) = 0))
        refine g_z_eq (tgt := 119) (pc := 44) dL_writes_44 (by omega) (by decide) (fun c44 => ?_) (fun c44 => ?_)
        · skip
          refine g_iload (pc := 119) dL_writes_119 rfl ?_
          refine g_z_le (tgt := 156) (pc := 121) dL_writes_121 (by omega) (by decide) (fun c121 => absurd c121 (by omega)) (fun c121 => ?_)
          have h_l1 : lsf σ ≠ -1 := h_l (by omega)
          have hwh : ¬ whole9 σ p v := by
            rintro ⟨q1, q2, q3⟩
            have q4 := b2_t (b := decide (pf σ p (v.tdiv 4) = 0)) (decide_eq_true q3)
            omega
          refine g_aload_n (i := 3) (pc := 124) dL_writes_124 rfl rfl ?_
          refine g_sR (pc := 125) okS_L_single rfl l_L_57 dL_writes_125 (by decide) (by decide) (Nat.le_of_ble_eq_true rfl) (t_L_single (σ := σ) (l_at1 hw) hi) rfl ?_
          simp only [Option.toList, List.cons_append, List.nil_append]
          have bb := lsf_rng σ
          refine g_istore (pc := 128) dL_writes_128 (by decide) rfl ?_
          simp only [List.set_cons_succ, List.set_cons_zero]
          refine g_aload_n (i := 3) (pc := 130) dL_writes_130 rfl rfl ?_
          refine g_iload (pc := 131) dL_writes_131 rfl ?_
          refine g_lconst (z := 1) (pc := 133) dL_writes_133 rfl ?_
          refine g_iload_n (i := 0) (pc := 134) dL_writes_134 rfl rfl ?_
          skip
          refine g_lshl (pc := 135) dL_writes_135 ?_
          refine G.eqS (v' := vL (b_shlL 1 (((16 * p + v).toNat : Nat) : Int))) (congrArg (fun z => vL (b_shlL 1 z)) (by omega)) ?_
          refine g_last (pc := 136) dL_writes_136 (l_at1 hw) (by omega) ?_
          refine G.eqw (l_set1 hw) ?_
          refine g_iload (pc := 137) dL_writes_137 rfl ?_
          refine g_z_lt (tgt := 156) (pc := 139) dL_writes_139 (by omega) (by decide) (fun c139 => ?_) (fun c139 => absurd c139 (by omega))
          refine G.eqw (w' := setL w a (lawm (s_setfr σ (16 * p + v).toNat (lsf σ)))) (setL_eq rfl ?_ rfl) ?_
          · have f9 : s_fr σ (16 * p + v).toNat = -1 := by rw [← fo_in h_p h_v]; omega
            refine (um_wr0 (fr := s_fr σ) (k := (16 * p + v).toNat) (t := (lsf σ).toNat) (by omega) f9 (by rw [Int.toNat_of_nonneg (by omega)]; exact lsf_us (by omega))).trans ?_
            show um (va_up (s_fr σ) (16 * p + v).toNat _) = um (va_up (s_fr σ) (16 * p + v).toNat _)
            rw [Int.toNat_of_nonneg (by omega)]
          refine g_aload_n (i := 2) (pc := 156) dL_writes_156 rfl rfl ?_
          refine g_iconst (pc := 157) dL_writes_157 ?_
          refine g_dup2 (pc := 158) dL_writes_158 (fun z h => nomatch h) (fun z h => nomatch h) ?_
          refine g_iald (pc := 159) dL_writes_159 ((l_at0 hw)) (by omega) ?_
          refine G.eqS (v' := vI (s_fa (s_setfr σ (16 * p + v).toNat (lsf σ)))) rfl ?_
          refine g_iload (pc := 160) dL_writes_160 rfl ?_
          refine g_iconst (pc := 162) dL_writes_162 ?_
          refine g_c_ne (tgt := 170) (pc := 163) dL_writes_163 (by omega) (by decide) (fun c163 => absurd c163 (by omega)) (fun c163 => ?_)
          refine g_iconst (pc := 166) dL_writes_166 ?_
          refine g_goto (tgt := 171) (pc := 167) dL_writes_167 (by decide) ?_
          refine g_iadd (pc := 171) dL_writes_171 ?_
          refine g_iast (pc := 172) dL_writes_172 (l_at0 hw) (by omega) ?_
          refine G.eqw (l_set0 hw) ?_
          refine G.eqw (w' := setL w a (lawm (s_addfa (s_setfr σ (16 * p + v).toNat (lsf σ)) 1))) (setL_eq (qf_fa (s_setfr σ (16 * p + v).toNat (lsf σ)) 1) rfl rfl) ?_
          refine g_aload_n (i := 2) (pc := 173) dL_writes_173 rfl rfl ?_
          refine g_iconst (pc := 174) dL_writes_174 ?_
          refine g_dup2 (pc := 175) dL_writes_175 (fun z h => nomatch h) (fun z h => nomatch h) ?_
          refine g_iald (pc := 176) dL_writes_176 ((l_at0 hw)) (by omega) ?_
          refine G.eqS (v' := vI (s_co (s_addfa (s_setfr σ (16 * p + v).toNat (lsf σ)) 1))) rfl ?_
          refine g_iload (pc := 177) dL_writes_177 rfl ?_
          refine g_iconst (pc := 179) dL_writes_179 ?_
          refine g_c_le (tgt := 187) (pc := 180) dL_writes_180 (by omega) (by decide) (fun c180 => ?_) (fun c180 => absurd c180 (by omega))
          refine g_iconst (pc := 187) dL_writes_187 ?_
          refine g_iadd (pc := 188) dL_writes_188 ?_
          refine g_iast (pc := 189) dL_writes_189 (l_at0 hw) (by omega) ?_
          refine G.eqw (l_set0 hw) ?_
          refine G.eqw (w' := setL w a (lawm (s_addco (s_addfa (s_setfr σ (16 * p + v).toNat (lsf σ)) 1) 0))) (setL_eq (qf_co (s_addfa (s_setfr σ (16 * p + v).toNat (lsf σ)) 1) 0) rfl rfl) ?_
          refine g_aload_n (i := 2) (pc := 190) dL_writes_190 rfl rfl ?_
          refine g_iconst (pc := 191) dL_writes_191 ?_
          refine g_dup2 (pc := 192) dL_writes_192 (fun z h => nomatch h) (fun z h => nomatch h) ?_
          refine g_iald (pc := 193) dL_writes_193 ((l_at0 hw)) (by omega) ?_
          refine G.eqS (v' := vI (s_te (s_addco (s_addfa (s_setfr σ (16 * p + v).toNat (lsf σ)) 1) 0))) rfl ?_
          refine g_iload (pc := 194) dL_writes_194 rfl ?_
          refine g_iconst (pc := 196) dL_writes_196 ?_
          refine g_c_ne (tgt := 204) (pc := 197) dL_writes_197 (by omega) (by decide) (fun c197 => ?_) (fun c197 => absurd c197 (by omega))
          refine g_iconst (pc := 204) dL_writes_204 ?_
          refine g_iadd (pc := 205) dL_writes_205 ?_
          refine g_iast (pc := 206) dL_writes_206 (l_at0 hw) (by omega) ?_
          refine G.eqw (l_set0 hw) ?_
          refine G.eqw (w' := setL w a (lawm (s_addte (s_addco (s_addfa (s_setfr σ (16 * p + v).toNat (lsf σ)) 1) 0) 0))) (setL_eq (qf_te (s_addco (s_addfa (s_setfr σ (16 * p + v).toNat (lsf σ)) 1) 0) 0) rfl rfl) ?_
          refine g_aload_n (i := 2) (pc := 207) dL_writes_207 rfl rfl ?_
          refine g_iconst (pc := 208) dL_writes_208 ?_
          refine g_dup2 (pc := 209) dL_writes_209 (fun z h => nomatch h) (fun z h => nomatch h) ?_
          refine g_iald (pc := 210) dL_writes_210 ((l_at0 hw)) (by omega) ?_
          refine G.eqS (v' := vI (bsum (s_bg (s_addte (s_addco (s_addfa (s_setfr σ (16 * p + v).toNat (lsf σ)) 1) 0) 0)) 16)) rfl ?_
          refine g_iload (pc := 211) dL_writes_211 rfl ?_
          refine g_iconst (pc := 213) dL_writes_213 ?_
          refine g_c_ne (tgt := 227) (pc := 214) dL_writes_214 (by omega) (by decide) (fun c214 => ?_) (fun c214 => absurd c214 (by omega))
          refine g_iconst (pc := 227) dL_writes_227 ?_
          refine g_iand (pc := 228) dL_writes_228 ?_
          refine g_iast (pc := 229) dL_writes_229 (l_at0 hw) (by omega) ?_
          refine G.eqw (l_set0 hw) ?_
          refine G.eqw (w' := setL w a (lawm (s_addte (s_addco (s_addfa (s_setfr σ (16 * p + v).toNat (lsf σ)) 1) 0) 0))) (setL_eq (qf_and (σ := (s_addte (s_addco (s_addfa (s_setfr σ (16 * p + v).toNat (lsf σ)) 1) 0) 0)) hi.2.2.1) rfl rfl) ?_
          have eT : (s_addte (s_addco (s_addfa (s_setfr σ (16 * p + v).toNat (lsf σ)) 1) 0) 0) = s_wri1 σ p v := by
            rw [(w_e1s hoc hwh)]
            try rw [addfa_0]
            try rw [addte_0]
            try rw [addco_0]
            try rfl
          refine G.eqw (congrArg (fun z => setL w a (lawm z)) eT) ?_
          refine g_aload (pc := 230) dL_writes_230 rfl ?_
          refine g_iload_n (i := 0) (pc := 232) dL_writes_232 rfl rfl ?_
          refine g_aload_n (i := 3) (pc := 233) dL_writes_233 rfl rfl ?_
          refine g_sIR (pc := 234) okS_L_frame rfl l_L_46 dL_writes_234 (by decide) (by decide) (Nat.le_of_ble_eq_true rfl) (t_L_frame (σ := s_wri1 σ p v) (l_at1 hw) (inv_wri1 hi h_o) (by omega)) rfl ?_
          simp only [Option.toList, List.cons_append, List.nil_append]
          have bw := fo_rng (inv_wri1 hi h_o) p v
          have bz := wri1_fo h_p h_v h_o
          refine G.eqS (congrArg (fun z => vI z) (fo_k (σ := s_wri1 σ p v) hk h_p h_v)) ?_
          refine g_iload_n (i := 1) (pc := 237) dL_writes_237 rfl rfl ?_
          refine g_iast (pc := 238) dL_writes_238 (l_at2 hw) (by omega) ?_
          refine G.eqw (l_set2 hw) ?_
          refine g_iload (pc := 239) dL_writes_239 rfl ?_
          refine g_iret (pc := 241) rfl dL_writes_241 (fun h => h) ?_
          refine dt_i (by rw [if_neg h_o]) ?_
          rw [if_neg h_o]
          unfold s_wri
          rw [if_neg (wri1_fo h_p h_v h_o)]
          rfl
        · skip
          refine g_aload_n (i := 3) (pc := 47) dL_writes_47 rfl rfl ?_
          refine g_sR (pc := 48) okS_L_run rfl l_L_42 dL_writes_48 (by decide) (by decide) (Nat.le_of_ble_eq_true rfl) (t_L_run (σ := σ) (l_at1 hw) hi) rfl ?_
          simp only [Option.toList, List.cons_append, List.nil_append]
          have bb := lfr_rng σ
          refine g_z_lt (tgt := 119) (pc := 51) dL_writes_51 (by omega) (by decide) (fun c51 => ?_) (fun c51 => ?_)
          · skip
            refine g_iload (pc := 119) dL_writes_119 rfl ?_
            refine g_z_le (tgt := 156) (pc := 121) dL_writes_121 (by omega) (by decide) (fun c121 => absurd c121 (by omega)) (fun c121 => ?_)
            have h_l1 : lsf σ ≠ -1 := h_l (by omega)
            have hwh : ¬ whole9 σ p v := by
              rintro ⟨q1, q2, q3⟩
              have q4 := b2_t (b := decide (pf σ p (v.tdiv 4) = 0)) (decide_eq_true q3)
              omega
            refine g_aload_n (i := 3) (pc := 124) dL_writes_124 rfl rfl ?_
            refine g_sR (pc := 125) okS_L_single rfl l_L_57 dL_writes_125 (by decide) (by decide) (Nat.le_of_ble_eq_true rfl) (t_L_single (σ := σ) (l_at1 hw) hi) rfl ?_
            simp only [Option.toList, List.cons_append, List.nil_append]
            have bb := lsf_rng σ
            refine g_istore (pc := 128) dL_writes_128 (by decide) rfl ?_
            simp only [List.set_cons_succ, List.set_cons_zero]
            refine g_aload_n (i := 3) (pc := 130) dL_writes_130 rfl rfl ?_
            refine g_iload (pc := 131) dL_writes_131 rfl ?_
            refine g_lconst (z := 1) (pc := 133) dL_writes_133 rfl ?_
            refine g_iload_n (i := 0) (pc := 134) dL_writes_134 rfl rfl ?_
            skip
            refine g_lshl (pc := 135) dL_writes_135 ?_
            refine G.eqS (v' := vL (b_shlL 1 (((16 * p + v).toNat : Nat) : Int))) (congrArg (fun z => vL (b_shlL 1 z)) (by omega)) ?_
            refine g_last (pc := 136) dL_writes_136 (l_at1 hw) (by omega) ?_
            refine G.eqw (l_set1 hw) ?_
            refine g_iload (pc := 137) dL_writes_137 rfl ?_
            refine g_z_lt (tgt := 156) (pc := 139) dL_writes_139 (by omega) (by decide) (fun c139 => ?_) (fun c139 => absurd c139 (by omega))
            refine G.eqw (w' := setL w a (lawm (s_setfr σ (16 * p + v).toNat (lsf σ)))) (setL_eq rfl ?_ rfl) ?_
            · have f9 : s_fr σ (16 * p + v).toNat = -1 := by rw [← fo_in h_p h_v]; omega
              refine (um_wr0 (fr := s_fr σ) (k := (16 * p + v).toNat) (t := (lsf σ).toNat) (by omega) f9 (by rw [Int.toNat_of_nonneg (by omega)]; exact lsf_us (by omega))).trans ?_
              show um (va_up (s_fr σ) (16 * p + v).toNat _) = um (va_up (s_fr σ) (16 * p + v).toNat _)
              rw [Int.toNat_of_nonneg (by omega)]
            refine g_aload_n (i := 2) (pc := 156) dL_writes_156 rfl rfl ?_
            refine g_iconst (pc := 157) dL_writes_157 ?_
            refine g_dup2 (pc := 158) dL_writes_158 (fun z h => nomatch h) (fun z h => nomatch h) ?_
            refine g_iald (pc := 159) dL_writes_159 ((l_at0 hw)) (by omega) ?_
            refine G.eqS (v' := vI (s_fa (s_setfr σ (16 * p + v).toNat (lsf σ)))) rfl ?_
            refine g_iload (pc := 160) dL_writes_160 rfl ?_
            refine g_iconst (pc := 162) dL_writes_162 ?_
            refine g_c_ne (tgt := 170) (pc := 163) dL_writes_163 (by omega) (by decide) (fun c163 => absurd c163 (by omega)) (fun c163 => ?_)
            refine g_iconst (pc := 166) dL_writes_166 ?_
            refine g_goto (tgt := 171) (pc := 167) dL_writes_167 (by decide) ?_
            refine g_iadd (pc := 171) dL_writes_171 ?_
            refine g_iast (pc := 172) dL_writes_172 (l_at0 hw) (by omega) ?_
            refine G.eqw (l_set0 hw) ?_
            refine G.eqw (w' := setL w a (lawm (s_addfa (s_setfr σ (16 * p + v).toNat (lsf σ)) 1))) (setL_eq (qf_fa (s_setfr σ (16 * p + v).toNat (lsf σ)) 1) rfl rfl) ?_
            refine g_aload_n (i := 2) (pc := 173) dL_writes_173 rfl rfl ?_
            refine g_iconst (pc := 174) dL_writes_174 ?_
            refine g_dup2 (pc := 175) dL_writes_175 (fun z h => nomatch h) (fun z h => nomatch h) ?_
            refine g_iald (pc := 176) dL_writes_176 ((l_at0 hw)) (by omega) ?_
            refine G.eqS (v' := vI (s_co (s_addfa (s_setfr σ (16 * p + v).toNat (lsf σ)) 1))) rfl ?_
            refine g_iload (pc := 177) dL_writes_177 rfl ?_
            refine g_iconst (pc := 179) dL_writes_179 ?_
            refine g_c_le (tgt := 187) (pc := 180) dL_writes_180 (by omega) (by decide) (fun c180 => ?_) (fun c180 => absurd c180 (by omega))
            refine g_iconst (pc := 187) dL_writes_187 ?_
            refine g_iadd (pc := 188) dL_writes_188 ?_
            refine g_iast (pc := 189) dL_writes_189 (l_at0 hw) (by omega) ?_
            refine G.eqw (l_set0 hw) ?_
            refine G.eqw (w' := setL w a (lawm (s_addco (s_addfa (s_setfr σ (16 * p + v).toNat (lsf σ)) 1) 0))) (setL_eq (qf_co (s_addfa (s_setfr σ (16 * p + v).toNat (lsf σ)) 1) 0) rfl rfl) ?_
            refine g_aload_n (i := 2) (pc := 190) dL_writes_190 rfl rfl ?_
            refine g_iconst (pc := 191) dL_writes_191 ?_
            refine g_dup2 (pc := 192) dL_writes_192 (fun z h => nomatch h) (fun z h => nomatch h) ?_
            refine g_iald (pc := 193) dL_writes_193 ((l_at0 hw)) (by omega) ?_
            refine G.eqS (v' := vI (s_te (s_addco (s_addfa (s_setfr σ (16 * p + v).toNat (lsf σ)) 1) 0))) rfl ?_
            refine g_iload (pc := 194) dL_writes_194 rfl ?_
            refine g_iconst (pc := 196) dL_writes_196 ?_
            refine g_c_ne (tgt := 204) (pc := 197) dL_writes_197 (by omega) (by decide) (fun c197 => ?_) (fun c197 => absurd c197 (by omega))
            refine g_iconst (pc := 204) dL_writes_204 ?_
            refine g_iadd (pc := 205) dL_writes_205 ?_
            refine g_iast (pc := 206) dL_writes_206 (l_at0 hw) (by omega) ?_
            refine G.eqw (l_set0 hw) ?_
            refine G.eqw (w' := setL w a (lawm (s_addte (s_addco (s_addfa (s_setfr σ (16 * p + v).toNat (lsf σ)) 1) 0) 0))) (setL_eq (qf_te (s_addco (s_addfa (s_setfr σ (16 * p + v).toNat (lsf σ)) 1) 0) 0) rfl rfl) ?_
            refine g_aload_n (i := 2) (pc := 207) dL_writes_207 rfl rfl ?_
            refine g_iconst (pc := 208) dL_writes_208 ?_
            refine g_dup2 (pc := 209) dL_writes_209 (fun z h => nomatch h) (fun z h => nomatch h) ?_
            refine g_iald (pc := 210) dL_writes_210 ((l_at0 hw)) (by omega) ?_
            refine G.eqS (v' := vI (bsum (s_bg (s_addte (s_addco (s_addfa (s_setfr σ (16 * p + v).toNat (lsf σ)) 1) 0) 0)) 16)) rfl ?_
            refine g_iload (pc := 211) dL_writes_211 rfl ?_
            refine g_iconst (pc := 213) dL_writes_213 ?_
            refine g_c_ne (tgt := 227) (pc := 214) dL_writes_214 (by omega) (by decide) (fun c214 => ?_) (fun c214 => absurd c214 (by omega))
            refine g_iconst (pc := 227) dL_writes_227 ?_
            refine g_iand (pc := 228) dL_writes_228 ?_
            refine g_iast (pc := 229) dL_writes_229 (l_at0 hw) (by omega) ?_
            refine G.eqw (l_set0 hw) ?_
            refine G.eqw (w' := setL w a (lawm (s_addte (s_addco (s_addfa (s_setfr σ (16 * p + v).toNat (lsf σ)) 1) 0) 0))) (setL_eq (qf_and (σ := (s_addte (s_addco (s_addfa (s_setfr σ (16 * p + v).toNat (lsf σ)) 1) 0) 0)) hi.2.2.1) rfl rfl) ?_
            have eT : (s_addte (s_addco (s_addfa (s_setfr σ (16 * p + v).toNat (lsf σ)) 1) 0) 0) = s_wri1 σ p v := by
              rw [(w_e1s hoc hwh)]
              try rw [addfa_0]
              try rw [addte_0]
              try rw [addco_0]
              try rfl
            refine G.eqw (congrArg (fun z => setL w a (lawm z)) eT) ?_
            refine g_aload (pc := 230) dL_writes_230 rfl ?_
            refine g_iload_n (i := 0) (pc := 232) dL_writes_232 rfl rfl ?_
            refine g_aload_n (i := 3) (pc := 233) dL_writes_233 rfl rfl ?_
            refine g_sIR (pc := 234) okS_L_frame rfl l_L_46 dL_writes_234 (by decide) (by decide) (Nat.le_of_ble_eq_true rfl) (t_L_frame (σ := s_wri1 σ p v) (l_at1 hw) (inv_wri1 hi h_o) (by omega)) rfl ?_
            simp only [Option.toList, List.cons_append, List.nil_append]
            have bw := fo_rng (inv_wri1 hi h_o) p v
            have bz := wri1_fo h_p h_v h_o
            refine G.eqS (congrArg (fun z => vI z) (fo_k (σ := s_wri1 σ p v) hk h_p h_v)) ?_
            refine g_iload_n (i := 1) (pc := 237) dL_writes_237 rfl rfl ?_
            refine g_iast (pc := 238) dL_writes_238 (l_at2 hw) (by omega) ?_
            refine G.eqw (l_set2 hw) ?_
            refine g_iload (pc := 239) dL_writes_239 rfl ?_
            refine g_iret (pc := 241) rfl dL_writes_241 (fun h => h) ?_
            refine dt_i (by rw [if_neg h_o]) ?_
            rw [if_neg h_o]
            unfold s_wri
            rw [if_neg (wri1_fo h_p h_v h_o)]
            rfl
          · skip
            have hwh : whole9 σ p v := ⟨by omega, by omega, of_decide_eq_true (b2_1.mp (by omega))⟩
            have h_r : 0 ≤ lfr σ := by omega
            have h_rf : rf σ (lfr σ) = true := lfr_rf (by omega)
            have h_no : ∀ i : Nat, i < 4 → s_fr σ (16 * p + (4 * v.tdiv 4 + i)).toNat = -1 := fun i h => by rw [← fo_in h_p (by omega)]; exact pf_no hwh.2.2 h
            refine g_aload_n (i := 3) (pc := 54) dL_writes_54 rfl rfl ?_
            refine g_sR (pc := 55) okS_L_run rfl l_L_42 dL_writes_55 (by decide) (by decide) (Nat.le_of_ble_eq_true rfl) (t_L_run (σ := σ) (l_at1 hw) hi) rfl ?_
            simp only [Option.toList, List.cons_append, List.nil_append]
            have bb := lfr_rng σ
            refine g_istore (pc := 58) dL_writes_58 (by decide) rfl ?_
            simp only [List.set_cons_succ, List.set_cons_zero]
            refine g_iconst (pc := 60) dL_writes_60 ?_
            refine g_istore (pc := 61) dL_writes_61 (by decide) rfl ?_
            simp only [List.set_cons_succ, List.set_cons_zero]
            refine G.eqw (w' := setL w a (qf σ, um (s_fr (s_wh σ p (v.tdiv 4) (lfr σ) 0)), s_va (s_wh σ p (v.tdiv 4) (lfr σ) 0))) rfl ?_
            refine lp_up (P := fun j => G M_L_writes none al al 63 [some (vI k), some (vI x), some (vR a), some (vR (a + 1)), some (vR (a + 2)), some (vI (oc σ p v)), some (vI (fo σ p v)), some (vI (lfr σ)), some (vI (j : Int))] [] (setL w a (qf σ, um (s_fr (s_wh σ p (v.tdiv 4) (lfr σ) j)), s_va (s_wh σ p (v.tdiv 4) (lfr σ) j))) 0 0 (dt (some (vI (if oc σ p v = -1 then -3 else oc σ p v))) (setL w a (lawm (if oc σ p v = -1 then σ else s_wri σ p v x))))) 4 ?_ ?_ 0 (Nat.zero_le _)
            · show G _ _ _ _ _ _ _ _ _ _ _
              refine g_iload (pc := 63) dL_writes_63 rfl ?_
              refine g_iconst (pc := 65) dL_writes_65 ?_
              refine g_c_ge (tgt := 105) (pc := 66) dL_writes_66 (by omega) (by decide) (fun c66 => ?_) (fun c66 => absurd c66 (by omega))
              refine g_aload_n (i := 2) (pc := 105) dL_writes_105 rfl rfl ?_
              refine g_iconst (pc := 106) dL_writes_106 ?_
              refine g_dup2 (pc := 107) dL_writes_107 (fun z h => nomatch h) (fun z h => nomatch h) ?_
              refine g_iald (pc := 108) dL_writes_108 ((l_at0 hw)) (by omega) ?_
              refine G.eqS (v' := vI (bsum (s_bg σ) 16)) rfl ?_
              refine g_iconst (pc := 109) dL_writes_109 ?_
              refine g_iload_n (i := 0) (pc := 110) dL_writes_110 rfl rfl ?_
              refine g_iconst (pc := 111) dL_writes_111 ?_
              refine g_idiv (pc := 112) dL_writes_112 (by omega) (by omega) ?_
              refine G.eqS (v' := vI (((4 * p + v.tdiv 4).toNat : Nat) : Int)) (congrArg (fun z => vI z) (by omega)) ?_
              refine g_ishl (pc := 113) dL_writes_113 ?_
              refine g_ior (pc := 114) dL_writes_114 ?_
              refine g_iast (pc := 115) dL_writes_115 (l_at0 hw) (by omega) ?_
              refine G.eqw (l_set0 hw) ?_
              refine G.eqw (w' := setL w a (lawm (s_who σ p (v.tdiv 4) (lfr σ)))) (setL_eq (qf_who hi (by omega)) rfl rfl) ?_
              have hbW := (inv_who hi (p := p) (g := v.tdiv 4) (r := lfr σ) h_e (by omega) (by have := lfr_rng σ; omega)).2.2.1
              refine g_goto (tgt := 156) (pc := 116) dL_writes_116 (by decide) ?_
              refine g_aload_n (i := 2) (pc := 156) dL_writes_156 rfl rfl ?_
              refine g_iconst (pc := 157) dL_writes_157 ?_
              refine g_dup2 (pc := 158) dL_writes_158 (fun z h => nomatch h) (fun z h => nomatch h) ?_
              refine g_iald (pc := 159) dL_writes_159 ((l_at0 hw)) (by omega) ?_
              refine G.eqS (v' := vI (s_fa (s_who σ p (v.tdiv 4) (lfr σ)))) rfl ?_
              refine g_iload (pc := 160) dL_writes_160 rfl ?_
              refine g_iconst (pc := 162) dL_writes_162 ?_
              refine g_c_ne (tgt := 170) (pc := 163) dL_writes_163 (by omega) (by decide) (fun c163 => absurd c163 (by omega)) (fun c163 => ?_)
              refine g_iconst (pc := 166) dL_writes_166 ?_
              refine g_goto (tgt := 171) (pc := 167) dL_writes_167 (by decide) ?_
              refine g_iadd (pc := 171) dL_writes_171 ?_
              refine g_iast (pc := 172) dL_writes_172 (l_at0 hw) (by omega) ?_
              refine G.eqw (l_set0 hw) ?_
              refine G.eqw (w' := setL w a (lawm (s_addfa (s_who σ p (v.tdiv 4) (lfr σ)) 1))) (setL_eq (qf_fa (s_who σ p (v.tdiv 4) (lfr σ)) 1) rfl rfl) ?_
              refine g_aload_n (i := 2) (pc := 173) dL_writes_173 rfl rfl ?_
              refine g_iconst (pc := 174) dL_writes_174 ?_
              refine g_dup2 (pc := 175) dL_writes_175 (fun z h => nomatch h) (fun z h => nomatch h) ?_
              refine g_iald (pc := 176) dL_writes_176 ((l_at0 hw)) (by omega) ?_
              refine G.eqS (v' := vI (s_co (s_addfa (s_who σ p (v.tdiv 4) (lfr σ)) 1))) rfl ?_
              refine g_iload (pc := 177) dL_writes_177 rfl ?_
              refine g_iconst (pc := 179) dL_writes_179 ?_
              refine g_c_le (tgt := 187) (pc := 180) dL_writes_180 (by omega) (by decide) (fun c180 => ?_) (fun c180 => absurd c180 (by omega))
              refine g_iconst (pc := 187) dL_writes_187 ?_
              refine g_iadd (pc := 188) dL_writes_188 ?_
              refine g_iast (pc := 189) dL_writes_189 (l_at0 hw) (by omega) ?_
              refine G.eqw (l_set0 hw) ?_
              refine G.eqw (w' := setL w a (lawm (s_addco (s_addfa (s_who σ p (v.tdiv 4) (lfr σ)) 1) 0))) (setL_eq (qf_co (s_addfa (s_who σ p (v.tdiv 4) (lfr σ)) 1) 0) rfl rfl) ?_
              refine g_aload_n (i := 2) (pc := 190) dL_writes_190 rfl rfl ?_
              refine g_iconst (pc := 191) dL_writes_191 ?_
              refine g_dup2 (pc := 192) dL_writes_192 (fun z h => nomatch h) (fun z h => nomatch h) ?_
              refine g_iald (pc := 193) dL_writes_193 ((l_at0 hw)) (by omega) ?_
              refine G.eqS (v' := vI (s_te (s_addco (s_addfa (s_who σ p (v.tdiv 4) (lfr σ)) 1) 0))) rfl ?_
              refine g_iload (pc := 194) dL_writes_194 rfl ?_
              refine g_iconst (pc := 196) dL_writes_196 ?_
              refine g_c_ne (tgt := 204) (pc := 197) dL_writes_197 (by omega) (by decide) (fun c197 => ?_) (fun c197 => absurd c197 (by omega))
              refine g_iconst (pc := 204) dL_writes_204 ?_
              refine g_iadd (pc := 205) dL_writes_205 ?_
              refine g_iast (pc := 206) dL_writes_206 (l_at0 hw) (by omega) ?_
              refine G.eqw (l_set0 hw) ?_
              refine G.eqw (w' := setL w a (lawm (s_addte (s_addco (s_addfa (s_who σ p (v.tdiv 4) (lfr σ)) 1) 0) 0))) (setL_eq (qf_te (s_addco (s_addfa (s_who σ p (v.tdiv 4) (lfr σ)) 1) 0) 0) rfl rfl) ?_
              refine g_aload_n (i := 2) (pc := 207) dL_writes_207 rfl rfl ?_
              refine g_iconst (pc := 208) dL_writes_208 ?_
              refine g_dup2 (pc := 209) dL_writes_209 (fun z h => nomatch h) (fun z h => nomatch h) ?_
              refine g_iald (pc := 210) dL_writes_210 ((l_at0 hw)) (by omega) ?_
              refine G.eqS (v' := vI (bsum (s_bg (s_addte (s_addco (s_addfa (s_who σ p (v.tdiv 4) (lfr σ)) 1) 0) 0)) 16)) rfl ?_
              refine g_iload (pc := 211) dL_writes_211 rfl ?_
              refine g_iconst (pc := 213) dL_writes_213 ?_
              refine g_c_ne (tgt := 227) (pc := 214) dL_writes_214 (by omega) (by decide) (fun c214 => ?_) (fun c214 => absurd c214 (by omega))
              refine g_iconst (pc := 227) dL_writes_227 ?_
              refine g_iand (pc := 228) dL_writes_228 ?_
              refine g_iast (pc := 229) dL_writes_229 (l_at0 hw) (by omega) ?_
              refine G.eqw (l_set0 hw) ?_
              refine G.eqw (w' := setL w a (lawm (s_addte (s_addco (s_addfa (s_who σ p (v.tdiv 4) (lfr σ)) 1) 0) 0))) (setL_eq (qf_and (σ := (s_addte (s_addco (s_addfa (s_who σ p (v.tdiv 4) (lfr σ)) 1) 0) 0)) hbW) rfl rfl) ?_
              have eT : (s_addte (s_addco (s_addfa (s_who σ p (v.tdiv 4) (lfr σ)) 1) 0) 0) = s_wri1 σ p v := by
                rw [(w_e1w hoc hwh)]
                try rw [addfa_0]
                try rw [addte_0]
                try rw [addco_0]
                try rfl
              refine G.eqw (congrArg (fun z => setL w a (lawm z)) eT) ?_
              refine g_aload (pc := 230) dL_writes_230 rfl ?_
              refine g_iload_n (i := 0) (pc := 232) dL_writes_232 rfl rfl ?_
              refine g_aload_n (i := 3) (pc := 233) dL_writes_233 rfl rfl ?_
              refine g_sIR (pc := 234) okS_L_frame rfl l_L_46 dL_writes_234 (by decide) (by decide) (Nat.le_of_ble_eq_true rfl) (t_L_frame (σ := s_wri1 σ p v) (l_at1 hw) (inv_wri1 hi h_o) (by omega)) rfl ?_
              simp only [Option.toList, List.cons_append, List.nil_append]
              have bw := fo_rng (inv_wri1 hi h_o) p v
              have bz := wri1_fo h_p h_v h_o
              refine G.eqS (congrArg (fun z => vI z) (fo_k (σ := s_wri1 σ p v) hk h_p h_v)) ?_
              refine g_iload_n (i := 1) (pc := 237) dL_writes_237 rfl rfl ?_
              refine g_iast (pc := 238) dL_writes_238 (l_at2 hw) (by omega) ?_
              refine G.eqw (l_set2 hw) ?_
              refine g_iload (pc := 239) dL_writes_239 rfl ?_
              refine g_iret (pc := 241) rfl dL_writes_241 (fun h => h) ?_
              refine dt_i (by rw [if_neg h_o]) ?_
              rw [if_neg h_o]
              unfold s_wri
              rw [if_neg (wri1_fo h_p h_v h_o)]
              rfl
            · intro j hj ih
              show G _ _ _ _ _ _ _ _ _ _ _
              refine g_iload (pc := 63) dL_writes_63 rfl ?_
              refine g_iconst (pc := 65) dL_writes_65 ?_
              refine g_c_ge (tgt := 105) (pc := 66) dL_writes_66 (by omega) (by decide) (fun c66 => absurd c66 (by omega)) (fun c66 => ?_)
              refine g_aload_n (i := 3) (pc := 69) dL_writes_69 rfl rfl ?_
              refine g_iconst (pc := 70) dL_writes_70 ?_
              refine g_iload (pc := 71) dL_writes_71 rfl ?_
              refine g_imul (pc := 73) dL_writes_73 ?_
              refine g_iload (pc := 74) dL_writes_74 rfl ?_
              refine g_iadd (pc := 76) dL_writes_76 ?_
              refine g_lconst (z := 1) (pc := 77) dL_writes_77 rfl ?_
              refine g_iload_n (i := 0) (pc := 78) dL_writes_78 rfl rfl ?_
              refine g_iconst (pc := 79) dL_writes_79 ?_
              refine g_idiv (pc := 80) dL_writes_80 (by omega) (by omega) ?_
              refine g_iconst (pc := 81) dL_writes_81 ?_
              refine g_imul (pc := 82) dL_writes_82 ?_
              refine g_iload (pc := 83) dL_writes_83 rfl ?_
              refine g_iadd (pc := 85) dL_writes_85 ?_
              refine g_lshl (pc := 86) dL_writes_86 ?_
              refine G.eqS (v' := vL (b_shlL 1 (((16 * p + (4 * v.tdiv 4 + (j : Int))).toNat : Nat) : Int))) (congrArg (fun z => vL (b_shlL 1 z)) (by omega)) ?_
              refine g_last (pc := 87) dL_writes_87 (l_at1 hw) (by omega) ?_
              refine G.eqw (l_set1 hw) ?_
              refine g_aload (pc := 88) dL_writes_88 rfl ?_
              refine g_iconst (pc := 90) dL_writes_90 ?_
              refine g_iload (pc := 91) dL_writes_91 rfl ?_
              refine g_imul (pc := 93) dL_writes_93 ?_
              refine g_iload (pc := 94) dL_writes_94 rfl ?_
              refine g_iadd (pc := 96) dL_writes_96 ?_
              refine g_iconst (pc := 97) dL_writes_97 ?_
              refine g_iast (pc := 98) dL_writes_98 (l_at2 hw) (by omega) ?_
              refine G.eqw (l_set2 hw) ?_
              refine G.eqw (w' := setL w a (qf σ, um (s_fr (s_wh σ p (v.tdiv 4) (lfr σ) (j + 1))), s_va (s_wh σ p (v.tdiv 4) (lfr σ) (j + 1)))) (setL_eq rfl ?_ rfl) ?_
              · have f9 : s_fr (s_wh σ p (v.tdiv 4) (lfr σ) j) (16 * p + (4 * v.tdiv 4 + (j : Int))).toNat = -1 := by
                  rw [wh_fr σ p _ _ (fun i' h' => by omega)]
                  exact h_no j hj
                have u9 := wh_us (g := v.tdiv 4) h_p (by omega) h_r h_no h_rf (j := j) (i := j) (Nat.le_refl _) hj
                refine (um_wr0 (fr := s_fr (s_wh σ p (v.tdiv 4) (lfr σ) j)) (k := (16 * p + (4 * v.tdiv 4 + (j : Int))).toNat) (t := (4 * lfr σ + (j : Int)).toNat) (by omega) f9 (by rw [Int.toNat_of_nonneg (by omega)]; exact u9)).trans ?_
                show um (va_up (s_fr (s_wh σ p (v.tdiv 4) (lfr σ) j)) (16 * p + (4 * v.tdiv 4 + (j : Int))).toNat _) = um (va_up (s_fr (s_wh σ p (v.tdiv 4) (lfr σ) j)) (16 * p + (4 * v.tdiv 4 + (j : Int))).toNat _)
                rw [Int.toNat_of_nonneg (by omega)]
              refine g_iinc (pc := 99) dL_writes_99 rfl (by decide) rfl ?_
              simp only [List.set_cons_succ, List.set_cons_zero]
              refine g_goto (tgt := 63) (pc := 102) dL_writes_102 (by decide) ?_
              exact ih
  · skip
    refine g_bipush (pc := 13) dL_writes_13 (by decide) ?_
    refine g_iret (pc := 15) rfl dL_writes_15 (fun h => h) ?_
    exact dt_i (by rw [if_pos (by omega)]) (by rw [if_pos (by omega)])
end LC8
