/-! THE LAW'S PRESSURE (printed by wip/p28/lch3.py, but for the first rows) -/
section LC7
def lip (τ : SG) : Nat → Bool := fun k : Nat => !(big τ ((k / 16 : Nat) : Int) ((k % 16 / 4 : Nat) : Int)) && decide (uo τ ((k / 16 : Nat) : Int) ((k % 16 : Nat) : Int) = 1) && decide (vo τ ((k / 16 : Nat) : Int) ((k % 16 : Nat) : Int) = 0)
theorem lip_li (τ : SG) : fx (lip τ) 64 0 = li τ := fx_0 _ _
theorem lip_iff {τ : SG} {k : Nat} (hk : k < 64) : lip τ k = true ↔ s_fr τ k ≠ -1 ∧ ¬ big τ ((k / 16 : Nat) : Int) ((k % 16 / 4 : Nat) : Int) = true ∧ uses (s_fr τ) (s_fr τ k) = 1 ∧ s_va τ (s_fr τ k).toNat = 0 := by
  have e : fo τ ((k / 16 : Nat) : Int) ((k % 16 : Nat) : Int) = s_fr τ k := by
    rw [fo_in (by omega) (by omega), show (16 * ((k / 16 : Nat) : Int) + ((k % 16 : Nat) : Int)).toNat = k by omega]
  unfold lip
  rw [Bool.and_eq_true, Bool.and_eq_true, decide_eq_true_eq, decide_eq_true_eq, Bool.not_eq_true', ← Bool.not_eq_true]
  unfold uo vo
  rw [e]
  by_cases q : s_fr τ k = -1
  · rw [if_pos q, if_pos q]
    constructor
    · rintro ⟨⟨-, z⟩, -⟩; exact absurd z (by decide)
    · rintro ⟨z, -⟩; exact absurd q z
  · rw [if_neg q, if_neg q]
    exact ⟨fun ⟨⟨z1, z2⟩, z3⟩ => ⟨q, z1, z2, z3⟩, fun ⟨_, z1, z2, z3⟩ => ⟨⟨z1, z2⟩, z3⟩⟩
theorem big_fo {τ : SG} (hb : BI τ) {p g : Int} (hp : 0 ≤ p ∧ p < 4) (hg : 0 ≤ g ∧ g < 4) (h : big τ p g = true) {i : Nat} (hi : i < 4) : fo τ p (4 * g + i) ≠ -1 := by
  have h5 := (of_decide_eq_true h).2.2.2.2
  rw [fo_in hp (by omega)]
  refine hb _ (by omega) ?_
  rw [show (16 * p + (4 * g + (i : Int))).toNat / 4 = (4 * p + g).toNat by omega]
  exact h5
theorem ps_0 {τ : SG} {p g : Int} (hp : 0 ≤ p ∧ p < 4) (hg : 0 ≤ g ∧ g < 4) (hf : ∀ i : Nat, i < 4 → fo τ p (4 * g + i) ≠ -1) (h : ∀ i : Nat, i < 4 → uses (s_fr τ) (fo τ p (4 * g + i)) = 1) : ps τ p g = 0 := by
  refine ct_zero.mpr fun i hi z => ?_
  exact (sh_one hp (by omega) (hf i hi)).mp z (h i hi)
theorem ps_n {τ : SG} {p g : Int} (hp : 0 ≤ p ∧ p < 4) (hg : 0 ≤ g ∧ g < 4) {i : Nat} (hi : i < 4) (hf : fo τ p (4 * g + i) ≠ -1) (h : ¬ uses (s_fr τ) (fo τ p (4 * g + i)) = 1) : ¬ ps τ p g = 0 := by
  intro z
  exact ct_zero.mp z i hi ((sh_one hp (by omega) hf).mpr h)
theorem qf_lo2 (σ : SG) (n : Int) : va_up (qf σ) 5 (s_lo σ + n) = qf (s_addlo σ n) := qf_lo σ n
set_option maxRecDepth 20000 in
set_option maxHeartbeats 600000 in
theorem t_L_press {w : List MC} {a : Nat} {σ : SG} {al : Bool} (hw : okL w a) (hi : Inv σ) (hbi : BI σ) {n : Int} (h_n : -2147483648 ≤ n ∧ n < 2147483648) : GM M_L_press al [vI n, vR a, vR (a + 1), vR (a + 2)] (setL w a (lawm σ)) 0 0 (dt (some (vI (nff (s_pre σ n)))) (setL w a (lawm (s_pre σ n)))) := by
  show G _ none _ _ 0 [some (vI n), some (vR a), some (vR (a + 1)), some (vR (a + 2)), none, none, none, none, none, none, none] [] _ _ _ _
  have hi9 := hi
  refine lp_up (P := fun k9 => mus (itp σ n k9) + k9 ≤ 80 → G M_L_press none al al 0 [some (vI n), some (vR a), some (vR (a + 1)), some (vR (a + 2)), none, none, none, none, none, none, none] [] (setL w a (lawm (itp σ n k9))) 0 0 (dt (some (vI (nff (s_pre σ n)))) (setL w a (lawm (s_pre σ n))))) 81 ?_ ?_ 0 (Nat.zero_le _) (by have := mus_rng σ; show mus σ + ((0 : Nat) : Int) ≤ 80; omega)
  · intro h
    exfalso
    have := mus_rng (itp σ n 81)
    omega
  · intro k9 hk9 ih9 hM
    obtain ⟨τ, hτ⟩ : ∃ τ, τ = itp σ n k9 := ⟨_, rfl⟩
    refine G.eqw (congrArg (fun z => setL w a (lawm z)) hτ.symm) ?_
    rw [← hτ] at hM
    have hi : Inv τ := by rw [hτ]; exact inv_itp hi9 n k9
    have hb9 : BI τ := by rw [hτ]; exact bi_itp hbi n k9
    have yM := mus_rng τ
    refine g_aload_n (i := 2) (pc := 0) dL_press_0 rfl rfl ?_
    refine g_sR (pc := 1) okS_L_free rfl l_L_72 dL_press_1 (by decide) (by decide) (Nat.le_of_ble_eq_true rfl) (t_L_free (σ := τ) (l_at1 hw) hi) rfl ?_
    simp only [Option.toList, List.cons_append, List.nil_append]
    have bb := nff_rng τ
    refine g_iload_n (i := 0) (pc := 4) dL_press_4 rfl rfl ?_
    refine g_c_ge (tgt := 310) (pc := 5) dL_press_5 (by omega) (by decide) (fun c5 => ?_) (fun c5 => ?_)
    · skip
      have e9 : s_pre σ n = τ := by
        have e8 := itp_fix (σ := σ) (n := n) (k := k9) (by
          rw [← hτ]
          unfold pst
          rw [if_pos (by omega)]) (80 - k9)
        rw [show k9 + (80 - k9) = 80 by omega, ← hτ] at e8
        exact e8
      refine g_aload_n (i := 2) (pc := 310) dL_press_310 rfl rfl ?_
      refine g_sR (pc := 311) okS_L_free rfl l_L_72 dL_press_311 (by decide) (by decide) (Nat.le_of_ble_eq_true rfl) (t_L_free (σ := τ) (l_at1 hw) hi) rfl ?_
      simp only [Option.toList, List.cons_append, List.nil_append]
      have bb := nff_rng τ
      refine g_iret (pc := 314) rfl dL_press_314 (fun h => h) ?_
      exact dt_i (by rw [e9]) (by rw [e9])
    · skip
      refine g_iconst (pc := 8) dL_press_8 ?_
      refine g_istore (pc := 9) dL_press_9 (by decide) rfl ?_
      simp only [List.set_cons_succ, List.set_cons_zero]
      refine g_bipush (pc := 11) dL_press_11 (by decide) ?_
      refine g_istore (pc := 13) dL_press_13 (by decide) rfl ?_
      simp only [List.set_cons_succ, List.set_cons_zero]
      refine G.eqL2 (F := fun x y => [some (vI n), some (vR a), some (vR (a + 1)), some (vR (a + 2)), some (vI x), some (vI y), none, none, none, none, none]) (x' := fx (lip τ) 64 64) (y' := ((64 : Nat) : Int) + (-1)) (fx_n _ _).symm (by omega) ?_
      refine lp_dn (P := fun k => G M_L_press none al al 15 [some (vI n), some (vR a), some (vR (a + 1)), some (vR (a + 2)), some (vI (fx (lip τ) 64 k)), some (vI ((k : Int) + (-1))), none, none, none, none, none] [] (setL w a (lawm τ)) 0 0 (dt (some (vI (nff (s_pre σ n)))) (setL w a (lawm (s_pre σ n))))) 64 ?_ ?_
      · show G _ _ _ _ _ _ _ _ _ _ _
        refine G.eqL (congrArg (fun z => [some (vI n), some (vR a), some (vR (a + 1)), some (vR (a + 2)), some (vI z), some (vI (((0 : Nat) : Int) + (-1))), none, none, none, none, none]) (lip_li τ)) ?_
        refine g_iload (pc := 15) dL_press_15 rfl ?_
        refine g_z_lt (tgt := 78) (pc := 17) dL_press_17 (by omega) (by decide) (fun c17 => ?_) (fun c17 => absurd c17 (by omega))
        have l9 := li_rng τ
        rcases (by omega : li τ = -1 ∨ 0 ≤ li τ) with hli | hli
        · skip
          refine g_iconst (pc := 78) dL_press_78 ?_
          refine g_istore (pc := 79) dL_press_79 (by decide) rfl ?_
          simp only [List.set_cons_succ, List.set_cons_zero]
          refine g_iconst (pc := 81) dL_press_81 ?_
          refine g_istore (pc := 82) dL_press_82 (by decide) rfl ?_
          simp only [List.set_cons_succ, List.set_cons_zero]
          refine g_iconst (pc := 84) dL_press_84 ?_
          refine g_istore (pc := 85) dL_press_85 (by decide) rfl ?_
          simp only [List.set_cons_succ, List.set_cons_zero]
          refine lp_up (P := fun k => G M_L_press none al al 87 [some (vI n), some (vR a), some (vR (a + 1)), some (vR (a + 2)), some (vI (li τ)), some (vI ((tb τ k).1)), some (vI ((tb τ k).2)), some (vI (k : Int)), none, none, none] [] (setL w a (lawm τ)) 0 0 (dt (some (vI (nff (s_pre σ n)))) (setL w a (lawm (s_pre σ n))))) 16 ?_ ?_ 0 (Nat.zero_le _)
          · show G _ _ _ _ _ _ _ _ _ _ _
            have t9 := tb_rng τ 16
            refine g_iload (pc := 87) dL_press_87 rfl ?_
            refine g_bipush (pc := 89) dL_press_89 (by decide) ?_
            refine g_c_ge (tgt := 249) (pc := 91) dL_press_91 (by omega) (by decide) (fun c91 => ?_) (fun c91 => absurd c91 (by omega))
            refine g_iload (pc := 249) dL_press_249 rfl ?_
            refine g_z_ge (tgt := 264) (pc := 251) dL_press_251 (by omega) (by decide) (fun c251 => absurd c251 (by omega)) (fun c251 => ?_)
            refine g_iload (pc := 254) dL_press_254 rfl ?_
            refine g_z_ge (tgt := 264) (pc := 256) dL_press_256 (by omega) (by decide) (fun c256 => ?_) (fun c256 => ?_)
            · skip
              skip
              refine g_iload (pc := 264) dL_press_264 rfl ?_
              refine g_z_lt (tgt := 288) (pc := 266) dL_press_266 (by omega) (by decide) (fun c266 => ?_) (fun c266 => absurd c266 (by omega))
              refine g_aload_n (i := 1) (pc := 288) dL_press_288 rfl rfl ?_
              refine g_iconst (pc := 289) dL_press_289 ?_
              refine g_dup2 (pc := 290) dL_press_290 (fun z h => nomatch h) (fun z h => nomatch h) ?_
              refine g_iald (pc := 291) dL_press_291 ((l_at0 hw)) (by omega) ?_
              refine G.eqS (v' := vI (bsum (s_bg τ) 16)) rfl ?_
              refine g_iconst (pc := 292) dL_press_292 ?_
              refine g_iload (pc := 293) dL_press_293 rfl ?_
              refine G.eqS (v' := vI (((4 * ((tb τ 16).1 / 4) + (tb τ 16).1 % 4).toNat : Nat) : Int)) (congrArg (fun z => vI z) (by omega)) ?_
              refine g_ishl (pc := 295) dL_press_295 ?_
              refine g_iconst (pc := 296) dL_press_296 ?_
              refine g_ixor (pc := 297) dL_press_297 ?_
              refine g_iand (pc := 298) dL_press_298 ?_
              refine g_iast (pc := 299) dL_press_299 (l_at0 hw) (by omega) ?_
              refine G.eqw (l_set0 hw) ?_
              refine G.eqw (w' := setL w a (lawm (s_setbg τ (4 * ((tb τ 16).1 / 4) + (tb τ 16).1 % 4).toNat 0))) (setL_eq (qf_sml (σ := τ) hi (by omega)) rfl rfl) ?_
              refine g_aload_n (i := 1) (pc := 300) dL_press_300 rfl rfl ?_
              refine g_iconst (pc := 301) dL_press_301 ?_
              refine g_dup2 (pc := 302) dL_press_302 (fun z h => nomatch h) (fun z h => nomatch h) ?_
              refine g_iald (pc := 303) dL_press_303 ((l_at0 hw)) (by omega) ?_
              refine G.eqS (v' := vI (s_te (s_setbg τ (4 * ((tb τ 16).1 / 4) + (tb τ 16).1 % 4).toNat 0))) rfl ?_
              refine g_iconst (pc := 304) dL_press_304 ?_
              refine g_iadd (pc := 305) dL_press_305 ?_
              refine g_iast (pc := 306) dL_press_306 (l_at0 hw) (by omega) ?_
              refine G.eqw (l_set0 hw) ?_
              refine G.eqw (w' := setL w a (lawm (s_ter τ))) (setL_eq (qf_te (s_setbg τ (4 * ((tb τ 16).1 / 4) + (tb τ 16).1 % 4).toNat 0) 1) rfl rfl) ?_
              refine g_goto (tgt := 0) (pc := 307) dL_press_307 (by decide) ?_
              refine G.drop 10 ?_
              refine G.drop 9 ?_
              refine G.drop 8 ?_
              refine G.drop 7 ?_
              refine G.drop 6 ?_
              refine G.drop 5 ?_
              refine G.drop 4 ?_
              simp only [List.set_cons_succ, List.set_cons_zero]
              have e7 : itp σ n (k9 + 1) = s_ter τ := by
                rw [itp, ← hτ]
                unfold pst
                rw [if_neg (show ¬ n ≤ nff τ by omega), if_neg (show ¬ li τ ≠ -1 by omega), if_pos (show (tb τ 16).1 ≠ -1 by omega)]
              refine G.eqw (w' := setL w a (lawm (itp σ n (k9 + 1)))) (congrArg (fun z => setL w a (lawm z)) e7.symm) (ih9 ?_)
              have e6 := mus_ter (σ := τ) (by omega)
              rw [e7]
              omega
            · skip
              have e9 : s_pre σ n = τ := by
                have e8 := itp_fix (σ := σ) (n := n) (k := k9) (by
                  rw [← hτ]
                  unfold pst
                  rw [if_neg (by omega), if_neg (by omega), if_neg (by omega)]) (80 - k9)
                rw [show k9 + (80 - k9) = 80 by omega, ← hτ] at e8
                exact e8
              refine g_aload_n (i := 2) (pc := 259) dL_press_259 rfl rfl ?_
              refine g_sR (pc := 260) okS_L_free rfl l_L_72 dL_press_260 (by decide) (by decide) (Nat.le_of_ble_eq_true rfl) (t_L_free (σ := τ) (l_at1 hw) hi) rfl ?_
              simp only [Option.toList, List.cons_append, List.nil_append]
              have bb := nff_rng τ
              refine g_iret (pc := 263) rfl dL_press_263 (fun h => h) ?_
              exact dt_i (by rw [e9]) (by rw [e9])
          · intro k hk ih
            show G _ _ _ _ _ _ _ _ _ _ _
            have t9 := tb_rng τ k
            refine g_iload (pc := 87) dL_press_87 rfl ?_
            refine g_bipush (pc := 89) dL_press_89 (by decide) ?_
            refine g_c_ge (tgt := 249) (pc := 91) dL_press_91 (by omega) (by decide) (fun c91 => absurd c91 (by omega)) (fun c91 => ?_)
            refine g_iload (pc := 94) dL_press_94 rfl ?_
            refine g_z_ge (tgt := 249) (pc := 96) dL_press_96 (by omega) (by decide) (fun c96 => absurd c96 (by omega)) (fun c96 => ?_)
            refine g_iconst (pc := 99) dL_press_99 ?_
            refine g_istore (pc := 100) dL_press_100 (by decide) rfl ?_
            simp only [List.set_cons_succ, List.set_cons_zero]
            refine g_aload_n (i := 1) (pc := 102) dL_press_102 rfl rfl ?_
            refine g_iconst (pc := 103) dL_press_103 ?_
            refine g_iald (pc := 104) dL_press_104 ((l_at0 hw)) (by omega) ?_
            refine G.eqS (v' := vI (bsum (s_bg τ) 16)) rfl ?_
            refine g_iload (pc := 105) dL_press_105 rfl ?_
            refine g_ishr (pc := 107) dL_press_107 ?_
            refine g_iconst (pc := 108) dL_press_108 ?_
            refine g_iand (pc := 109) dL_press_109 ?_
            refine G.eqS (congrArg (fun z => vI z) (bit_bg (σ := τ) hi (p := ((k / 4 : Nat) : Int)) (g := ((k % 4 : Nat) : Int)) (by omega) (by omega) (by omega))) ?_
            rcases b2_rng (big τ ((k / 4 : Nat) : Int) ((k % 4 : Nat) : Int)) with hbg | hbg
            · skip
              have htbb := b2_0.mp hbg
              refine g_iconst (pc := 110) dL_press_110 ?_
              refine g_c_ne (tgt := 118) (pc := 111) dL_press_111 (by omega) (by decide) (fun c111 => ?_) (fun c111 => absurd c111 (by omega))
              refine g_iconst (pc := 118) dL_press_118 ?_
              refine g_istore (pc := 119) dL_press_119 (by decide) rfl ?_
              simp only [List.set_cons_succ, List.set_cons_zero]
              refine g_iconst (pc := 121) dL_press_121 ?_
              refine g_iload (pc := 122) dL_press_122 rfl ?_
              refine g_imul (pc := 124) dL_press_124 ?_
              refine g_istore (pc := 125) dL_press_125 (by decide) rfl ?_
              simp only [List.set_cons_succ, List.set_cons_zero]
              refine g_iload (pc := 127) dL_press_127 rfl ?_
              refine g_iconst (pc := 129) dL_press_129 ?_
              refine g_iload (pc := 130) dL_press_130 rfl ?_
              refine g_imul (pc := 132) dL_press_132 ?_
              refine g_iconst (pc := 133) dL_press_133 ?_
              refine g_iadd (pc := 134) dL_press_134 ?_
              refine g_c_ge (tgt := 162) (pc := 135) dL_press_135 (by omega) (by decide) (fun c135 => absurd c135 (by omega)) (fun c135 => ?_)
              refine g_iload (pc := 138) dL_press_138 rfl ?_
              refine g_z_eq (tgt := 162) (pc := 140) dL_press_140 (by omega) (by decide) (fun c140 => ?_) (fun c140 => absurd c140 (by omega))
              refine g_iconst (pc := 162) dL_press_162 ?_
              refine g_iload (pc := 163) dL_press_163 rfl ?_
              refine g_imul (pc := 165) dL_press_165 ?_
              refine g_istore (pc := 166) dL_press_166 (by decide) rfl ?_
              simp only [List.set_cons_succ, List.set_cons_zero]
              refine g_iload (pc := 168) dL_press_168 rfl ?_
              refine g_iconst (pc := 170) dL_press_170 ?_
              refine g_iload (pc := 171) dL_press_171 rfl ?_
              refine g_imul (pc := 173) dL_press_173 ?_
              refine g_iconst (pc := 174) dL_press_174 ?_
              refine g_iadd (pc := 175) dL_press_175 ?_
              refine g_c_ge (tgt := 211) (pc := 176) dL_press_176 (by omega) (by decide) (fun c176 => absurd c176 (by omega)) (fun c176 => ?_)
              refine g_iload (pc := 179) dL_press_179 rfl ?_
              refine g_z_eq (tgt := 211) (pc := 181) dL_press_181 (by omega) (by decide) (fun c181 => ?_) (fun c181 => absurd c181 (by omega))
              refine g_iload (pc := 211) dL_press_211 rfl ?_
              refine g_iload (pc := 213) dL_press_213 rfl ?_
              refine g_c_le (tgt := 223) (pc := 215) dL_press_215 (by omega) (by decide) (fun c215 => ?_) (fun c215 => absurd c215 (by omega))
              refine g_iload (pc := 223) dL_press_223 rfl ?_
              refine g_istore (pc := 225) dL_press_225 (by decide) rfl ?_
              simp only [List.set_cons_succ, List.set_cons_zero]
              refine g_iload (pc := 227) dL_press_227 rfl ?_
              refine g_iload (pc := 229) dL_press_229 rfl ?_
              refine g_c_le (tgt := 239) (pc := 231) dL_press_231 (by omega) (by decide) (fun c231 => ?_) (fun c231 => absurd c231 (by omega))
              refine g_iload (pc := 239) dL_press_239 rfl ?_
              refine g_istore (pc := 241) dL_press_241 (by decide) rfl ?_
              simp only [List.set_cons_succ, List.set_cons_zero]
              refine g_iinc (pc := 243) dL_press_243 rfl (by decide) rfl ?_
              simp only [List.set_cons_succ, List.set_cons_zero]
              refine g_goto (tgt := 87) (pc := 246) dL_press_246 (by decide) ?_
              refine G.drop 8 ?_
              refine G.drop 9 ?_
              refine G.drop 10 ?_
              simp only [List.set_cons_succ, List.set_cons_zero]
              refine G.eqL2 (F := fun x y => [some (vI n), some (vR a), some (vR (a + 1)), some (vR (a + 2)), some (vI (li τ)), some (vI x), some (vI y), some (vI ((k : Int) + 1)), none, none, none]) (x' := (tb τ (k + 1)).1) (y' := (tb τ (k + 1)).2) ?_ ?_ ih
              · rw [tb]
                first
                | (rw [if_pos ⟨htb1, htb2, by omega⟩]; done)
                | (rw [if_neg (fun z => by have z9 := z.2.2; omega)]; done)
                | (rw [if_neg (fun z => htbn z.2.1)]; done)
                | (rw [if_neg (fun z => htbb z.1)]; done)
              · rw [tb]
                first
                | (rw [if_pos ⟨htb1, htb2, by omega⟩]; done)
                | (rw [if_neg (fun z => by have z9 := z.2.2; omega)]; done)
                | (rw [if_neg (fun z => htbn z.2.1)]; done)
                | (rw [if_neg (fun z => htbb z.1)]; done)
            · skip
              have htb1 := b2_1.mp hbg
              have hbf : ∀ i : Nat, i < 4 → fo τ ((k / 4 : Nat) : Int) (4 * ((k % 4 : Nat) : Int) + i) ≠ -1 := fun i h => big_fo hb9 (by omega) (by omega) htb1 h
              refine g_iconst (pc := 110) dL_press_110 ?_
              refine g_c_ne (tgt := 118) (pc := 111) dL_press_111 (by omega) (by decide) (fun c111 => absurd c111 (by omega)) (fun c111 => ?_)
              refine g_iconst (pc := 114) dL_press_114 ?_
              refine g_goto (tgt := 119) (pc := 115) dL_press_115 (by decide) ?_
              refine g_istore (pc := 119) dL_press_119 (by decide) rfl ?_
              simp only [List.set_cons_succ, List.set_cons_zero]
              refine g_iconst (pc := 121) dL_press_121 ?_
              refine g_iload (pc := 122) dL_press_122 rfl ?_
              refine g_imul (pc := 124) dL_press_124 ?_
              refine g_istore (pc := 125) dL_press_125 (by decide) rfl ?_
              simp only [List.set_cons_succ, List.set_cons_zero]
              refine G.eqL (congrArg (fun z => [some (vI n), some (vR a), some (vR (a + 1)), some (vR (a + 2)), some (vI (li τ)), some (vI (tb τ k).1), some (vI (tb τ k).2), some (vI (k : Int)), some (vI 0), some (vI 1), some (vI z)]) (show 4 * (k : Int) = 4 * (k : Int) + ((0 : Nat) : Int) by omega)) ?_
              refine lp_up (P := fun j => (∀ i : Nat, i < j → uses (s_fr τ) (fo τ ((k / 4 : Nat) : Int) (4 * ((k % 4 : Nat) : Int) + i)) = 1) → G M_L_press none al al 127 [some (vI n), some (vR a), some (vR (a + 1)), some (vR (a + 2)), some (vI (li τ)), some (vI (tb τ k).1), some (vI (tb τ k).2), some (vI (k : Int)), some (vI 0), some (vI 1), some (vI (4 * (k : Int) + ((j : Int))))] [] (setL w a (lawm τ)) 0 0 (dt (some (vI (nff (s_pre σ n)))) (setL w a (lawm (s_pre σ n))))) 4 ?_ ?_ 0 (Nat.zero_le _) (fun i h => absurd h (Nat.not_lt_zero i))
              · intro hH
                show G _ _ _ _ _ _ _ _ _ _ _
                have htb2 := ps_0 (τ := τ) (by omega) (by omega) hbf hH
                refine g_iload (pc := 127) dL_press_127 rfl ?_
                refine g_iconst (pc := 129) dL_press_129 ?_
                refine g_iload (pc := 130) dL_press_130 rfl ?_
                refine g_imul (pc := 132) dL_press_132 ?_
                refine g_iconst (pc := 133) dL_press_133 ?_
                refine g_iadd (pc := 134) dL_press_134 ?_
                refine g_c_ge (tgt := 162) (pc := 135) dL_press_135 (by omega) (by decide) (fun c135 => ?_) (fun c135 => absurd c135 (by omega))
                refine g_iconst (pc := 162) dL_press_162 ?_
                refine g_iload (pc := 163) dL_press_163 rfl ?_
                refine g_imul (pc := 165) dL_press_165 ?_
                refine g_istore (pc := 166) dL_press_166 (by decide) rfl ?_
                simp only [List.set_cons_succ, List.set_cons_zero]
                refine G.eqL2 (F := fun x y => [some (vI n), some (vR a), some (vR (a + 1)), some (vR (a + 2)), some (vI (li τ)), some (vI (tb τ k).1), some (vI (tb τ k).2), some (vI (k : Int)), some (vI x), some (vI 1), some (vI y)]) (x' := ct (fun i : Nat => decide (vo τ ((k / 4 : Nat) : Int) (4 * ((k % 4 : Nat) : Int) + i) = 0)) 0) (y' := 4 * (k : Int) + ((0 : Nat) : Int)) rfl (by omega) ?_
                refine lp_up (P := fun j => G M_L_press none al al 168 [some (vI n), some (vR a), some (vR (a + 1)), some (vR (a + 2)), some (vI (li τ)), some (vI (tb τ k).1), some (vI (tb τ k).2), some (vI (k : Int)), some (vI (ct (fun i : Nat => decide (vo τ ((k / 4 : Nat) : Int) (4 * ((k % 4 : Nat) : Int) + i) = 0)) (j))), some (vI 1), some (vI (4 * (k : Int) + (j : Int)))] [] (setL w a (lawm τ)) 0 0 (dt (some (vI (nff (s_pre σ n)))) (setL w a (lawm (s_pre σ n))))) 4 ?_ ?_ 0 (Nat.zero_le _)
                · refine G.eqL (L' := [some (vI n), some (vR a), some (vR (a + 1)), some (vR (a + 2)), some (vI (li τ)), some (vI (tb τ k).1), some (vI (tb τ k).2), some (vI (k : Int)), some (vI (pz τ ((k / 4 : Nat) : Int) ((k % 4 : Nat) : Int))), some (vI 1), some (vI (4 * (k : Int) + ((4 : Nat) : Int)))]) rfl ?_
                  have z9 := pz_rng τ ((k / 4 : Nat) : Int) ((k % 4 : Nat) : Int)
                  refine g_iload (pc := 168) dL_press_168 rfl ?_
                  refine g_iconst (pc := 170) dL_press_170 ?_
                  refine g_iload (pc := 171) dL_press_171 rfl ?_
                  refine g_imul (pc := 173) dL_press_173 ?_
                  refine g_iconst (pc := 174) dL_press_174 ?_
                  refine g_iadd (pc := 175) dL_press_175 ?_
                  refine g_c_ge (tgt := 211) (pc := 176) dL_press_176 (by omega) (by decide) (fun c176 => ?_) (fun c176 => absurd c176 (by omega))
                  refine g_iload (pc := 211) dL_press_211 rfl ?_
                  refine g_iload (pc := 213) dL_press_213 rfl ?_
                  refine g_c_le (tgt := 223) (pc := 215) dL_press_215 (by omega) (by decide) (fun c215 => ?_) (fun c215 => ?_)
                  · skip
                    refine g_iload (pc := 223) dL_press_223 rfl ?_
                    refine g_istore (pc := 225) dL_press_225 (by decide) rfl ?_
                    simp only [List.set_cons_succ, List.set_cons_zero]
                    refine g_iload (pc := 227) dL_press_227 rfl ?_
                    refine g_iload (pc := 229) dL_press_229 rfl ?_
                    refine g_c_le (tgt := 239) (pc := 231) dL_press_231 (by omega) (by decide) (fun c231 => ?_) (fun c231 => absurd c231 (by omega))
                    refine g_iload (pc := 239) dL_press_239 rfl ?_
                    refine g_istore (pc := 241) dL_press_241 (by decide) rfl ?_
                    simp only [List.set_cons_succ, List.set_cons_zero]
                    refine g_iinc (pc := 243) dL_press_243 rfl (by decide) rfl ?_
                    simp only [List.set_cons_succ, List.set_cons_zero]
                    refine g_goto (tgt := 87) (pc := 246) dL_press_246 (by decide) ?_
                    refine G.drop 8 ?_
                    refine G.drop 9 ?_
                    refine G.drop 10 ?_
                    simp only [List.set_cons_succ, List.set_cons_zero]
                    refine G.eqL2 (F := fun x y => [some (vI n), some (vR a), some (vR (a + 1)), some (vR (a + 2)), some (vI (li τ)), some (vI x), some (vI y), some (vI ((k : Int) + 1)), none, none, none]) (x' := (tb τ (k + 1)).1) (y' := (tb τ (k + 1)).2) ?_ ?_ ih
                    · rw [tb]
                      first
                      | (rw [if_pos ⟨htb1, htb2, by omega⟩]; done)
                      | (rw [if_neg (fun z => by have z9 := z.2.2; omega)]; done)
                      | (rw [if_neg (fun z => htbn z.2.1)]; done)
                      | (rw [if_neg (fun z => htbb z.1)]; done)
                    · rw [tb]
                      first
                      | (rw [if_pos ⟨htb1, htb2, by omega⟩]; done)
                      | (rw [if_neg (fun z => by have z9 := z.2.2; omega)]; done)
                      | (rw [if_neg (fun z => htbn z.2.1)]; done)
                      | (rw [if_neg (fun z => htbb z.1)]; done)
                  · skip
                    refine g_iload (pc := 218) dL_press_218 rfl ?_
                    refine g_goto (tgt := 225) (pc := 220) dL_press_220 (by decide) ?_
                    refine g_istore (pc := 225) dL_press_225 (by decide) rfl ?_
                    simp only [List.set_cons_succ, List.set_cons_zero]
                    refine g_iload (pc := 227) dL_press_227 rfl ?_
                    refine g_iload (pc := 229) dL_press_229 rfl ?_
                    refine g_c_le (tgt := 239) (pc := 231) dL_press_231 (by omega) (by decide) (fun c231 => absurd c231 (by omega)) (fun c231 => ?_)
                    refine g_iload (pc := 234) dL_press_234 rfl ?_
                    refine g_goto (tgt := 241) (pc := 236) dL_press_236 (by decide) ?_
                    refine g_istore (pc := 241) dL_press_241 (by decide) rfl ?_
                    simp only [List.set_cons_succ, List.set_cons_zero]
                    refine g_iinc (pc := 243) dL_press_243 rfl (by decide) rfl ?_
                    simp only [List.set_cons_succ, List.set_cons_zero]
                    refine g_goto (tgt := 87) (pc := 246) dL_press_246 (by decide) ?_
                    refine G.drop 8 ?_
                    refine G.drop 9 ?_
                    refine G.drop 10 ?_
                    simp only [List.set_cons_succ, List.set_cons_zero]
                    refine G.eqL2 (F := fun x y => [some (vI n), some (vR a), some (vR (a + 1)), some (vR (a + 2)), some (vI (li τ)), some (vI x), some (vI y), some (vI ((k : Int) + 1)), none, none, none]) (x' := (tb τ (k + 1)).1) (y' := (tb τ (k + 1)).2) ?_ ?_ ih
                    · rw [tb]
                      first
                      | (rw [if_pos ⟨htb1, htb2, by omega⟩]; done)
                      | (rw [if_neg (fun z => by have z9 := z.2.2; omega)]; done)
                      | (rw [if_neg (fun z => htbn z.2.1)]; done)
                      | (rw [if_neg (fun z => htbb z.1)]; done)
                    · rw [tb]
                      first
                      | (rw [if_pos ⟨htb1, htb2, by omega⟩]; done)
                      | (rw [if_neg (fun z => by have z9 := z.2.2; omega)]; done)
                      | (rw [if_neg (fun z => htbn z.2.1)]; done)
                      | (rw [if_neg (fun z => htbb z.1)]; done)
                · intro j hj ih2
                  show G _ _ _ _ _ _ _ _ _ _ _
                  refine g_iload (pc := 168) dL_press_168 rfl ?_
                  refine g_iconst (pc := 170) dL_press_170 ?_
                  refine g_iload (pc := 171) dL_press_171 rfl ?_
                  refine g_imul (pc := 173) dL_press_173 ?_
                  refine g_iconst (pc := 174) dL_press_174 ?_
                  refine g_iadd (pc := 175) dL_press_175 ?_
                  refine g_c_ge (tgt := 211) (pc := 176) dL_press_176 (by omega) (by decide) (fun c176 => absurd c176 (by omega)) (fun c176 => ?_)
                  refine g_iload (pc := 179) dL_press_179 rfl ?_
                  refine g_z_eq (tgt := 211) (pc := 181) dL_press_181 (by omega) (by decide) (fun c181 => absurd c181 (by omega)) (fun c181 => ?_)
                  refine g_iload (pc := 184) dL_press_184 rfl ?_
                  refine g_aload_n (i := 3) (pc := 186) dL_press_186 rfl rfl ?_
                  refine g_iload (pc := 187) dL_press_187 rfl ?_
                  refine g_aload_n (i := 2) (pc := 189) dL_press_189 rfl rfl ?_
                  refine g_sIR (pc := 190) okS_L_frame rfl l_L_46 dL_press_190 (by decide) (by decide) (Nat.le_of_ble_eq_true rfl) (t_L_frame (σ := τ) (l_at1 hw) hi (by omega)) rfl ?_
                  simp only [Option.toList, List.cons_append, List.nil_append]
                  refine G.eqS (congrArg (fun z => vI z) (fo_k (σ := τ) (p := ((k / 4 : Nat) : Int)) (v := 4 * ((k % 4 : Nat) : Int) + (j : Int)) (by omega) (by omega) (by omega))) ?_
                  have bf := fo_rng hi ((k / 4 : Nat) : Int) (4 * ((k % 4 : Nat) : Int) + (j : Int))
                  have bn := hbf j hj
                  refine g_iald (pc := 193) dL_press_193 ((l_at2 hw)) (by omega) ?_
                  refine G.eqS (v' := vI (s_va τ ((fo τ ((k / 4 : Nat) : Int) (4 * ((k % 4 : Nat) : Int) + (j : Int)))).toNat)) rfl ?_
                  have v9 := hi.2.2.2.2.1 (fo τ ((k / 4 : Nat) : Int) (4 * ((k % 4 : Nat) : Int) + (j : Int))).toNat
                  have v8 : vo τ ((k / 4 : Nat) : Int) (4 * ((k % 4 : Nat) : Int) + (j : Int)) = s_va τ (fo τ ((k / 4 : Nat) : Int) (4 * ((k % 4 : Nat) : Int) + (j : Int))).toNat := by unfold vo; rw [if_neg bn]
                  refine g_z_ne (tgt := 201) (pc := 194) dL_press_194 (by omega) (by decide) (fun c194 => ?_) (fun c194 => ?_)
                  · skip
                    refine g_iconst (pc := 201) dL_press_201 ?_
                    refine g_iadd (pc := 202) dL_press_202 ?_
                    refine g_istore (pc := 203) dL_press_203 (by decide) rfl ?_
                    simp only [List.set_cons_succ, List.set_cons_zero]
                    refine g_iinc (pc := 205) dL_press_205 rfl (by decide) rfl ?_
                    simp only [List.set_cons_succ, List.set_cons_zero]
                    refine g_goto (tgt := 168) (pc := 208) dL_press_208 (by decide) ?_
                    refine G.eqL2 (F := fun x y => [some (vI n), some (vR a), some (vR (a + 1)), some (vR (a + 2)), some (vI (li τ)), some (vI (tb τ k).1), some (vI (tb τ k).2), some (vI (k : Int)), some (vI x), some (vI 1), some (vI y)]) (x' := ct (fun i : Nat => decide (vo τ ((k / 4 : Nat) : Int) (4 * ((k % 4 : Nat) : Int) + i) = 0)) (j + 1)) (y' := 4 * (k : Int) + ((j + 1 : Nat) : Int)) ?_ (by omega) ih2
                    first
                    | exact (ct_yes (p := fun i : Nat => decide (vo τ ((k / 4 : Nat) : Int) (4 * ((k % 4 : Nat) : Int) + i) = 0)) (decide_eq_true (by omega))).symm
                    | exact (Int.add_zero _).trans (ct_no (p := fun i : Nat => decide (vo τ ((k / 4 : Nat) : Int) (4 * ((k % 4 : Nat) : Int) + i) = 0)) (fun z => by have z9 := of_decide_eq_true z; omega)).symm
                  · skip
                    refine g_iconst (pc := 197) dL_press_197 ?_
                    refine g_goto (tgt := 202) (pc := 198) dL_press_198 (by decide) ?_
                    refine g_iadd (pc := 202) dL_press_202 ?_
                    refine g_istore (pc := 203) dL_press_203 (by decide) rfl ?_
                    simp only [List.set_cons_succ, List.set_cons_zero]
                    refine g_iinc (pc := 205) dL_press_205 rfl (by decide) rfl ?_
                    simp only [List.set_cons_succ, List.set_cons_zero]
                    refine g_goto (tgt := 168) (pc := 208) dL_press_208 (by decide) ?_
                    refine G.eqL2 (F := fun x y => [some (vI n), some (vR a), some (vR (a + 1)), some (vR (a + 2)), some (vI (li τ)), some (vI (tb τ k).1), some (vI (tb τ k).2), some (vI (k : Int)), some (vI x), some (vI 1), some (vI y)]) (x' := ct (fun i : Nat => decide (vo τ ((k / 4 : Nat) : Int) (4 * ((k % 4 : Nat) : Int) + i) = 0)) (j + 1)) (y' := 4 * (k : Int) + ((j + 1 : Nat) : Int)) ?_ (by omega) ih2
                    first
                    | exact (ct_yes (p := fun i : Nat => decide (vo τ ((k / 4 : Nat) : Int) (4 * ((k % 4 : Nat) : Int) + i) = 0)) (decide_eq_true (by omega))).symm
                    | exact (Int.add_zero _).trans (ct_no (p := fun i : Nat => decide (vo τ ((k / 4 : Nat) : Int) (4 * ((k % 4 : Nat) : Int) + i) = 0)) (fun z => by have z9 := of_decide_eq_true z; omega)).symm
              · intro j hj ih2 hH
                show G _ _ _ _ _ _ _ _ _ _ _
                refine g_iload (pc := 127) dL_press_127 rfl ?_
                refine g_iconst (pc := 129) dL_press_129 ?_
                refine g_iload (pc := 130) dL_press_130 rfl ?_
                refine g_imul (pc := 132) dL_press_132 ?_
                refine g_iconst (pc := 133) dL_press_133 ?_
                refine g_iadd (pc := 134) dL_press_134 ?_
                refine g_c_ge (tgt := 162) (pc := 135) dL_press_135 (by omega) (by decide) (fun c135 => absurd c135 (by omega)) (fun c135 => ?_)
                refine g_iload (pc := 138) dL_press_138 rfl ?_
                refine g_z_eq (tgt := 162) (pc := 140) dL_press_140 (by omega) (by decide) (fun c140 => absurd c140 (by omega)) (fun c140 => ?_)
                refine g_aload_n (i := 2) (pc := 143) dL_press_143 rfl rfl ?_
                refine g_iload (pc := 144) dL_press_144 rfl ?_
                refine g_aload_n (i := 2) (pc := 146) dL_press_146 rfl rfl ?_
                refine g_sIR (pc := 147) okS_L_frame rfl l_L_46 dL_press_147 (by decide) (by decide) (Nat.le_of_ble_eq_true rfl) (t_L_frame (σ := τ) (l_at1 hw) hi (by omega)) rfl ?_
                simp only [Option.toList, List.cons_append, List.nil_append]
                refine G.eqS (congrArg (fun z => vI z) (fo_k (σ := τ) (p := ((k / 4 : Nat) : Int)) (v := 4 * ((k % 4 : Nat) : Int) + (j : Int)) (by omega) (by omega) (by omega))) ?_
                have bf := fo_rng hi ((k / 4 : Nat) : Int) (4 * ((k % 4 : Nat) : Int) + (j : Int))
                have bn := hbf j hj
                refine g_lald (pc := 150) dL_press_150 ((l_at1 hw)) (by omega) ?_
                refine g_sJ (pc := 151) okS_L_one rfl l_L_50 dL_press_151 (by decide) (by decide) (Nat.le_of_ble_eq_true rfl) (t_L_onex (fr := s_fr τ) (x := fo τ ((k / 4 : Nat) : Int) (4 * ((k % 4 : Nat) : Int) + (j : Int))) (by omega)) rfl ?_
                simp only [Option.toList, List.cons_append, List.nil_append]
                by_cases hone : uses (s_fr τ) (fo τ ((k / 4 : Nat) : Int) (4 * ((k % 4 : Nat) : Int) + (j : Int))) = 1
                · skip
                  refine G.eqS (congrArg (fun z => vI z) (b2_t (decide_eq_true hone))) ?_
                  refine g_istore (pc := 154) dL_press_154 (by decide) rfl ?_
                  simp only [List.set_cons_succ, List.set_cons_zero]
                  refine g_iinc (pc := 156) dL_press_156 rfl (by decide) rfl ?_
                  simp only [List.set_cons_succ, List.set_cons_zero]
                  refine g_goto (tgt := 127) (pc := 159) dL_press_159 (by decide) ?_
                  refine G.eqL (congrArg (fun z => [some (vI n), some (vR a), some (vR (a + 1)), some (vR (a + 2)), some (vI (li τ)), some (vI (tb τ k).1), some (vI (tb τ k).2), some (vI (k : Int)), some (vI 0), some (vI 1), some (vI z)]) (show 4 * (k : Int) + (j : Int) + 1 = 4 * (k : Int) + ((j + 1 : Nat) : Int) by omega)) (ih2 (fun i h => ?_))
                  rcases Nat.lt_or_ge i j with q | q
                  · exact hH i q
                  · rw [show i = j by omega]; exact hone
                · skip
                  have htbn := ps_n (τ := τ) (by omega) (by omega) hj bn hone
                  refine G.eqS (congrArg (fun z => vI z) (b2_f (fun z => hone (of_decide_eq_true z)))) ?_
                  refine g_istore (pc := 154) dL_press_154 (by decide) rfl ?_
                  simp only [List.set_cons_succ, List.set_cons_zero]
                  refine g_iinc (pc := 156) dL_press_156 rfl (by decide) rfl ?_
                  simp only [List.set_cons_succ, List.set_cons_zero]
                  refine g_goto (tgt := 127) (pc := 159) dL_press_159 (by decide) ?_
                  refine g_iload (pc := 127) dL_press_127 rfl ?_
                  refine g_iconst (pc := 129) dL_press_129 ?_
                  refine g_iload (pc := 130) dL_press_130 rfl ?_
                  refine g_imul (pc := 132) dL_press_132 ?_
                  refine g_iconst (pc := 133) dL_press_133 ?_
                  refine g_iadd (pc := 134) dL_press_134 ?_
                  refine g_c_ge (tgt := 162) (pc := 135) dL_press_135 (by omega) (by decide) (fun c135 => ?_) (fun c135 => ?_)
                  · skip
                    refine g_iconst (pc := 162) dL_press_162 ?_
                    refine g_iload (pc := 163) dL_press_163 rfl ?_
                    refine g_imul (pc := 165) dL_press_165 ?_
                    refine g_istore (pc := 166) dL_press_166 (by decide) rfl ?_
                    simp only [List.set_cons_succ, List.set_cons_zero]
                    refine g_iload (pc := 168) dL_press_168 rfl ?_
                    refine g_iconst (pc := 170) dL_press_170 ?_
                    refine g_iload (pc := 171) dL_press_171 rfl ?_
                    refine g_imul (pc := 173) dL_press_173 ?_
                    refine g_iconst (pc := 174) dL_press_174 ?_
                    refine g_iadd (pc := 175) dL_press_175 ?_
                    refine g_c_ge (tgt := 211) (pc := 176) dL_press_176 (by omega) (by decide) (fun c176 => ?_) (fun c176 => ?_)
                    · skip
                      refine g_iload (pc := 211) dL_press_211 rfl ?_
                      refine g_iload (pc := 213) dL_press_213 rfl ?_
                      refine g_c_le (tgt := 223) (pc := 215) dL_press_215 (by omega) (by decide) (fun c215 => ?_) (fun c215 => absurd c215 (by omega))
                      refine g_iload (pc := 223) dL_press_223 rfl ?_
                      refine g_istore (pc := 225) dL_press_225 (by decide) rfl ?_
                      simp only [List.set_cons_succ, List.set_cons_zero]
                      refine g_iload (pc := 227) dL_press_227 rfl ?_
                      refine g_iload (pc := 229) dL_press_229 rfl ?_
                      refine g_c_le (tgt := 239) (pc := 231) dL_press_231 (by omega) (by decide) (fun c231 => ?_) (fun c231 => absurd c231 (by omega))
                      refine g_iload (pc := 239) dL_press_239 rfl ?_
                      refine g_istore (pc := 241) dL_press_241 (by decide) rfl ?_
                      simp only [List.set_cons_succ, List.set_cons_zero]
                      refine g_iinc (pc := 243) dL_press_243 rfl (by decide) rfl ?_
                      simp only [List.set_cons_succ, List.set_cons_zero]
                      refine g_goto (tgt := 87) (pc := 246) dL_press_246 (by decide) ?_
                      refine G.drop 8 ?_
                      refine G.drop 9 ?_
                      refine G.drop 10 ?_
                      simp only [List.set_cons_succ, List.set_cons_zero]
                      refine G.eqL2 (F := fun x y => [some (vI n), some (vR a), some (vR (a + 1)), some (vR (a + 2)), some (vI (li τ)), some (vI x), some (vI y), some (vI ((k : Int) + 1)), none, none, none]) (x' := (tb τ (k + 1)).1) (y' := (tb τ (k + 1)).2) ?_ ?_ ih
                      · rw [tb]
                        first
                        | (rw [if_pos ⟨htb1, htb2, by omega⟩]; done)
                        | (rw [if_neg (fun z => by have z9 := z.2.2; omega)]; done)
                        | (rw [if_neg (fun z => htbn z.2.1)]; done)
                        | (rw [if_neg (fun z => htbb z.1)]; done)
                      · rw [tb]
                        first
                        | (rw [if_pos ⟨htb1, htb2, by omega⟩]; done)
                        | (rw [if_neg (fun z => by have z9 := z.2.2; omega)]; done)
                        | (rw [if_neg (fun z => htbn z.2.1)]; done)
                        | (rw [if_neg (fun z => htbb z.1)]; done)
                    · skip
                      refine g_iload (pc := 179) dL_press_179 rfl ?_
                      refine g_z_eq (tgt := 211) (pc := 181) dL_press_181 (by omega) (by decide) (fun c181 => ?_) (fun c181 => absurd c181 (by omega))
                      refine g_iload (pc := 211) dL_press_211 rfl ?_
                      refine g_iload (pc := 213) dL_press_213 rfl ?_
                      refine g_c_le (tgt := 223) (pc := 215) dL_press_215 (by omega) (by decide) (fun c215 => ?_) (fun c215 => absurd c215 (by omega))
                      refine g_iload (pc := 223) dL_press_223 rfl ?_
                      refine g_istore (pc := 225) dL_press_225 (by decide) rfl ?_
                      simp only [List.set_cons_succ, List.set_cons_zero]
                      refine g_iload (pc := 227) dL_press_227 rfl ?_
                      refine g_iload (pc := 229) dL_press_229 rfl ?_
                      refine g_c_le (tgt := 239) (pc := 231) dL_press_231 (by omega) (by decide) (fun c231 => ?_) (fun c231 => absurd c231 (by omega))
                      refine g_iload (pc := 239) dL_press_239 rfl ?_
                      refine g_istore (pc := 241) dL_press_241 (by decide) rfl ?_
                      simp only [List.set_cons_succ, List.set_cons_zero]
                      refine g_iinc (pc := 243) dL_press_243 rfl (by decide) rfl ?_
                      simp only [List.set_cons_succ, List.set_cons_zero]
                      refine g_goto (tgt := 87) (pc := 246) dL_press_246 (by decide) ?_
                      refine G.drop 8 ?_
                      refine G.drop 9 ?_
                      refine G.drop 10 ?_
                      simp only [List.set_cons_succ, List.set_cons_zero]
                      refine G.eqL2 (F := fun x y => [some (vI n), some (vR a), some (vR (a + 1)), some (vR (a + 2)), some (vI (li τ)), some (vI x), some (vI y), some (vI ((k : Int) + 1)), none, none, none]) (x' := (tb τ (k + 1)).1) (y' := (tb τ (k + 1)).2) ?_ ?_ ih
                      · rw [tb]
                        first
                        | (rw [if_pos ⟨htb1, htb2, by omega⟩]; done)
                        | (rw [if_neg (fun z => by have z9 := z.2.2; omega)]; done)
                        | (rw [if_neg (fun z => htbn z.2.1)]; done)
                        | (rw [if_neg (fun z => htbb z.1)]; done)
                      · rw [tb]
                        first
                        | (rw [if_pos ⟨htb1, htb2, by omega⟩]; done)
                        | (rw [if_neg (fun z => by have z9 := z.2.2; omega)]; done)
                        | (rw [if_neg (fun z => htbn z.2.1)]; done)
                        | (rw [if_neg (fun z => htbb z.1)]; done)
                  · skip
                    refine g_iload (pc := 138) dL_press_138 rfl ?_
                    refine g_z_eq (tgt := 162) (pc := 140) dL_press_140 (by omega) (by decide) (fun c140 => ?_) (fun c140 => absurd c140 (by omega))
                    refine g_iconst (pc := 162) dL_press_162 ?_
                    refine g_iload (pc := 163) dL_press_163 rfl ?_
                    refine g_imul (pc := 165) dL_press_165 ?_
                    refine g_istore (pc := 166) dL_press_166 (by decide) rfl ?_
                    simp only [List.set_cons_succ, List.set_cons_zero]
                    refine g_iload (pc := 168) dL_press_168 rfl ?_
                    refine g_iconst (pc := 170) dL_press_170 ?_
                    refine g_iload (pc := 171) dL_press_171 rfl ?_
                    refine g_imul (pc := 173) dL_press_173 ?_
                    refine g_iconst (pc := 174) dL_press_174 ?_
                    refine g_iadd (pc := 175) dL_press_175 ?_
                    refine g_c_ge (tgt := 211) (pc := 176) dL_press_176 (by omega) (by decide) (fun c176 => ?_) (fun c176 => ?_)
                    · skip
                      refine g_iload (pc := 211) dL_press_211 rfl ?_
                      refine g_iload (pc := 213) dL_press_213 rfl ?_
                      refine g_c_le (tgt := 223) (pc := 215) dL_press_215 (by omega) (by decide) (fun c215 => ?_) (fun c215 => absurd c215 (by omega))
                      refine g_iload (pc := 223) dL_press_223 rfl ?_
                      refine g_istore (pc := 225) dL_press_225 (by decide) rfl ?_
                      simp only [List.set_cons_succ, List.set_cons_zero]
                      refine g_iload (pc := 227) dL_press_227 rfl ?_
                      refine g_iload (pc := 229) dL_press_229 rfl ?_
                      refine g_c_le (tgt := 239) (pc := 231) dL_press_231 (by omega) (by decide) (fun c231 => ?_) (fun c231 => absurd c231 (by omega))
                      refine g_iload (pc := 239) dL_press_239 rfl ?_
                      refine g_istore (pc := 241) dL_press_241 (by decide) rfl ?_
                      simp only [List.set_cons_succ, List.set_cons_zero]
                      refine g_iinc (pc := 243) dL_press_243 rfl (by decide) rfl ?_
                      simp only [List.set_cons_succ, List.set_cons_zero]
                      refine g_goto (tgt := 87) (pc := 246) dL_press_246 (by decide) ?_
                      refine G.drop 8 ?_
                      refine G.drop 9 ?_
                      refine G.drop 10 ?_
                      simp only [List.set_cons_succ, List.set_cons_zero]
                      refine G.eqL2 (F := fun x y => [some (vI n), some (vR a), some (vR (a + 1)), some (vR (a + 2)), some (vI (li τ)), some (vI x), some (vI y), some (vI ((k : Int) + 1)), none, none, none]) (x' := (tb τ (k + 1)).1) (y' := (tb τ (k + 1)).2) ?_ ?_ ih
                      · rw [tb]
                        first
                        | (rw [if_pos ⟨htb1, htb2, by omega⟩]; done)
                        | (rw [if_neg (fun z => by have z9 := z.2.2; omega)]; done)
                        | (rw [if_neg (fun z => htbn z.2.1)]; done)
                        | (rw [if_neg (fun z => htbb z.1)]; done)
                      · rw [tb]
                        first
                        | (rw [if_pos ⟨htb1, htb2, by omega⟩]; done)
                        | (rw [if_neg (fun z => by have z9 := z.2.2; omega)]; done)
                        | (rw [if_neg (fun z => htbn z.2.1)]; done)
                        | (rw [if_neg (fun z => htbb z.1)]; done)
                    · skip
                      refine g_iload (pc := 179) dL_press_179 rfl ?_
                      refine g_z_eq (tgt := 211) (pc := 181) dL_press_181 (by omega) (by decide) (fun c181 => ?_) (fun c181 => absurd c181 (by omega))
                      refine g_iload (pc := 211) dL_press_211 rfl ?_
                      refine g_iload (pc := 213) dL_press_213 rfl ?_
                      refine g_c_le (tgt := 223) (pc := 215) dL_press_215 (by omega) (by decide) (fun c215 => ?_) (fun c215 => absurd c215 (by omega))
                      refine g_iload (pc := 223) dL_press_223 rfl ?_
                      refine g_istore (pc := 225) dL_press_225 (by decide) rfl ?_
                      simp only [List.set_cons_succ, List.set_cons_zero]
                      refine g_iload (pc := 227) dL_press_227 rfl ?_
                      refine g_iload (pc := 229) dL_press_229 rfl ?_
                      refine g_c_le (tgt := 239) (pc := 231) dL_press_231 (by omega) (by decide) (fun c231 => ?_) (fun c231 => absurd c231 (by omega))
                      refine g_iload (pc := 239) dL_press_239 rfl ?_
                      refine g_istore (pc := 241) dL_press_241 (by decide) rfl ?_
                      simp only [List.set_cons_succ, List.set_cons_zero]
                      refine g_iinc (pc := 243) dL_press_243 rfl (by decide) rfl ?_
                      simp only [List.set_cons_succ, List.set_cons_zero]
                      refine g_goto (tgt := 87) (pc := 246) dL_press_246 (by decide) ?_
                      refine G.drop 8 ?_
                      refine G.drop 9 ?_
                      refine G.drop 10 ?_
                      simp only [List.set_cons_succ, List.set_cons_zero]
                      refine G.eqL2 (F := fun x y => [some (vI n), some (vR a), some (vR (a + 1)), some (vR (a + 2)), some (vI (li τ)), some (vI x), some (vI y), some (vI ((k : Int) + 1)), none, none, none]) (x' := (tb τ (k + 1)).1) (y' := (tb τ (k + 1)).2) ?_ ?_ ih
                      · rw [tb]
                        first
                        | (rw [if_pos ⟨htb1, htb2, by omega⟩]; done)
                        | (rw [if_neg (fun z => by have z9 := z.2.2; omega)]; done)
                        | (rw [if_neg (fun z => htbn z.2.1)]; done)
                        | (rw [if_neg (fun z => htbb z.1)]; done)
                      · rw [tb]
                        first
                        | (rw [if_pos ⟨htb1, htb2, by omega⟩]; done)
                        | (rw [if_neg (fun z => by have z9 := z.2.2; omega)]; done)
                        | (rw [if_neg (fun z => htbn z.2.1)]; done)
                        | (rw [if_neg (fun z => htbb z.1)]; done)
        · skip
          refine g_iconst (pc := 78) dL_press_78 ?_
          refine g_istore (pc := 79) dL_press_79 (by decide) rfl ?_
          simp only [List.set_cons_succ, List.set_cons_zero]
          refine g_iconst (pc := 81) dL_press_81 ?_
          refine g_istore (pc := 82) dL_press_82 (by decide) rfl ?_
          simp only [List.set_cons_succ, List.set_cons_zero]
          refine g_iconst (pc := 84) dL_press_84 ?_
          refine g_istore (pc := 85) dL_press_85 (by decide) rfl ?_
          simp only [List.set_cons_succ, List.set_cons_zero]
          refine g_iload (pc := 87) dL_press_87 rfl ?_
          refine g_bipush (pc := 89) dL_press_89 (by decide) ?_
          refine g_c_ge (tgt := 249) (pc := 91) dL_press_91 (by omega) (by decide) (fun c91 => absurd c91 (by omega)) (fun c91 => ?_)
          refine g_iload (pc := 94) dL_press_94 rfl ?_
          refine g_z_ge (tgt := 249) (pc := 96) dL_press_96 (by omega) (by decide) (fun c96 => ?_) (fun c96 => absurd c96 (by omega))
          refine g_iload (pc := 249) dL_press_249 rfl ?_
          refine g_z_ge (tgt := 264) (pc := 251) dL_press_251 (by omega) (by decide) (fun c251 => ?_) (fun c251 => absurd c251 (by omega))
          have hlip : lip τ (li τ).toNat = true := by
            rcases ff_cases (lip τ) 64 with ⟨h1, -⟩ | ⟨k8, h1, -, h3, -⟩
            · have : li τ = -1 := h1
              omega
            · have e : li τ = k8 := h1
              rw [e, Int.toNat_natCast]; exact h3
          have l7 := (lip_iff (τ := τ) (k := (li τ).toNat) (by omega)).mp hlip
          refine g_iload (pc := 264) dL_press_264 rfl ?_
          refine g_z_lt (tgt := 288) (pc := 266) dL_press_266 (by omega) (by decide) (fun c266 => absurd c266 (by omega)) (fun c266 => ?_)
          refine g_aload_n (i := 2) (pc := 269) dL_press_269 rfl rfl ?_
          refine g_iload (pc := 270) dL_press_270 rfl ?_
          refine g_aload_n (i := 2) (pc := 272) dL_press_272 rfl rfl ?_
          refine g_sIR (pc := 273) okS_L_frame rfl l_L_46 dL_press_273 (by decide) (by decide) (Nat.le_of_ble_eq_true rfl) (t_L_frame (σ := τ) (l_at1 hw) hi (by omega)) rfl ?_
          simp only [Option.toList, List.cons_append, List.nil_append]
          have bf := hi.1 (li τ).toNat
          refine g_lconst (z := 0) (pc := 276) dL_press_276 rfl ?_
          refine g_last (pc := 277) dL_press_277 (l_at1 hw) (by omega) ?_
          refine G.eqw (l_set1 hw) ?_
          refine G.eqw (w' := setL w a (lawm (s_setfr τ (li τ).toNat (-1)))) (setL_eq rfl ?_ rfl) ?_
          · have l8 := (lip_iff (τ := τ) (k := (li τ).toNat) (by omega)).mp hlip
            exact um_off (fr := s_fr τ) (k := (li τ).toNat) (f := (s_fr τ (li τ).toNat).toNat) (by omega) (by omega) (by rw [Int.toNat_of_nonneg (by omega)]; exact l8.2.2.1)
          refine g_aload_n (i := 1) (pc := 278) dL_press_278 rfl rfl ?_
          refine g_iconst (pc := 279) dL_press_279 ?_
          refine g_dup2 (pc := 280) dL_press_280 (fun z h => nomatch h) (fun z h => nomatch h) ?_
          refine g_iald (pc := 281) dL_press_281 ((l_at0 hw)) (by omega) ?_
          refine G.eqS (v' := vI (s_lo (s_setfr τ (li τ).toNat (-1)))) rfl ?_
          refine g_iconst (pc := 282) dL_press_282 ?_
          refine g_iadd (pc := 283) dL_press_283 ?_
          refine g_iast (pc := 284) dL_press_284 (l_at0 hw) (by omega) ?_
          refine G.eqw (l_set0 hw) ?_
          refine G.eqw (w' := setL w a (lawm (s_los τ))) (setL_eq (qf_lo (s_setfr τ (li τ).toNat (-1)) 1) rfl rfl) ?_
          refine g_goto (tgt := 307) (pc := 285) dL_press_285 (by decide) ?_
          refine g_goto (tgt := 0) (pc := 307) dL_press_307 (by decide) ?_
          refine G.drop 10 ?_
          refine G.drop 9 ?_
          refine G.drop 8 ?_
          refine G.drop 7 ?_
          refine G.drop 6 ?_
          refine G.drop 5 ?_
          refine G.drop 4 ?_
          simp only [List.set_cons_succ, List.set_cons_zero]
          have e7 : itp σ n (k9 + 1) = s_los τ := by
            rw [itp, ← hτ]
            unfold pst
            rw [if_neg (show ¬ n ≤ nff τ by omega), if_pos (show li τ ≠ -1 by omega)]
          refine G.eqw (w' := setL w a (lawm (itp σ n (k9 + 1)))) (congrArg (fun z => setL w a (lawm z)) e7.symm) (ih9 ?_)
          have e6 := mus_los (σ := τ) (by omega)
          rw [e7]
          omega
      · intro k hk ih
        refine G.eqL (L' := [some (vI n), some (vR a), some (vR (a + 1)), some (vR (a + 2)), some (vI (fx (lip τ) 64 (k + 1))), some (vI (k : Int)), none, none, none, none, none]) (congrArg (fun z => [some (vI n), some (vR a), some (vR (a + 1)), some (vR (a + 2)), some (vI (fx (lip τ) 64 (k + 1))), some (vI z), none, none, none, none, none]) (show ((k + 1 : Nat) : Int) + (-1) = (k : Int) by omega)) ?_
        have lip9 := lip_iff (τ := τ) hk
        have f9 := fx_rng (lip τ) 64 (k + 1)
        refine g_iload (pc := 15) dL_press_15 rfl ?_
        refine g_z_lt (tgt := 78) (pc := 17) dL_press_17 (by omega) (by decide) (fun c17 => absurd c17 (by omega)) (fun c17 => ?_)
        refine g_iload (pc := 20) dL_press_20 rfl ?_
        refine g_aload_n (i := 2) (pc := 22) dL_press_22 rfl rfl ?_
        refine g_sIR (pc := 23) okS_L_frame rfl l_L_46 dL_press_23 (by decide) (by decide) (Nat.le_of_ble_eq_true rfl) (t_L_frame (σ := τ) (l_at1 hw) hi (by omega)) rfl ?_
        simp only [Option.toList, List.cons_append, List.nil_append]
        refine G.eqS (congrArg (fun z => vI z) (congrArg (s_fr τ) (Int.toNat_natCast k))) ?_
        have bf := hi.1 k
        refine g_istore (pc := 26) dL_press_26 (by decide) rfl ?_
        simp only [List.set_cons_succ, List.set_cons_zero]
        refine g_iload (pc := 28) dL_press_28 rfl ?_
        refine g_z_lt (tgt := 68) (pc := 30) dL_press_30 (by omega) (by decide) (fun c30 => ?_) (fun c30 => ?_)
        · skip
          refine g_iload (pc := 68) dL_press_68 rfl ?_
          refine g_istore (pc := 70) dL_press_70 (by decide) rfl ?_
          simp only [List.set_cons_succ, List.set_cons_zero]
          refine g_iinc (pc := 72) dL_press_72 rfl (by decide) rfl ?_
          simp only [List.set_cons_succ, List.set_cons_zero]
          refine g_goto (tgt := 15) (pc := 75) dL_press_75 (by decide) ?_
          refine G.drop 6 ?_
          simp only [List.set_cons_succ, List.set_cons_zero]
          refine G.eqL (congrArg (fun z => [some (vI n), some (vR a), some (vR (a + 1)), some (vR (a + 2)), some (vI z), some (vI ((k : Int) + (-1))), none, none, none, none, none]) ?_) ih
          rw [fx_s hk]
          first
          | (rw [if_pos (lip9.mpr ⟨by omega, b2_0.mp (by omega), of_decide_eq_true (b2_1.mp (by omega)), by omega⟩)]; done)
          | (rw [if_neg (fun z => (lip9.mp z).1 (by omega))]; done)
          | (rw [if_neg (fun z => (lip9.mp z).2.1 (b2_1.mp (by omega)))]; done)
          | (rw [if_neg (fun z => b2_0.mp (by omega) (decide_eq_true (lip9.mp z).2.2.1))]; done)
          | (rw [if_neg (fun z => by have z9 := (lip9.mp z).2.2.2; omega)]; done)
        · skip
          refine g_aload_n (i := 1) (pc := 33) dL_press_33 rfl rfl ?_
          refine g_iconst (pc := 34) dL_press_34 ?_
          refine g_iald (pc := 35) dL_press_35 ((l_at0 hw)) (by omega) ?_
          refine G.eqS (v' := vI (bsum (s_bg τ) 16)) rfl ?_
          refine g_iload (pc := 36) dL_press_36 rfl ?_
          have d9 := Int.tdiv_eq_ediv_of_nonneg (a := (k : Int)) (b := 4) (by omega)
          refine g_iconst (pc := 38) dL_press_38 ?_
          refine g_idiv (pc := 39) dL_press_39 (by omega) (by omega) ?_
          refine g_ishr (pc := 40) dL_press_40 ?_
          refine g_iconst (pc := 41) dL_press_41 ?_
          refine g_iand (pc := 42) dL_press_42 ?_
          refine G.eqS (congrArg (fun z => vI z) (bit_bg (σ := τ) hi (p := ((k / 16 : Nat) : Int)) (g := ((k % 16 / 4 : Nat) : Int)) (by omega) (by omega) (by omega))) ?_
          have b8 := b2_rng (big τ ((k / 16 : Nat) : Int) ((k % 16 / 4 : Nat) : Int))
          refine g_z_ne (tgt := 68) (pc := 43) dL_press_43 (by omega) (by decide) (fun c43 => ?_) (fun c43 => ?_)
          · skip
            refine g_iload (pc := 68) dL_press_68 rfl ?_
            refine g_istore (pc := 70) dL_press_70 (by decide) rfl ?_
            simp only [List.set_cons_succ, List.set_cons_zero]
            refine g_iinc (pc := 72) dL_press_72 rfl (by decide) rfl ?_
            simp only [List.set_cons_succ, List.set_cons_zero]
            refine g_goto (tgt := 15) (pc := 75) dL_press_75 (by decide) ?_
            refine G.drop 6 ?_
            simp only [List.set_cons_succ, List.set_cons_zero]
            refine G.eqL (congrArg (fun z => [some (vI n), some (vR a), some (vR (a + 1)), some (vR (a + 2)), some (vI z), some (vI ((k : Int) + (-1))), none, none, none, none, none]) ?_) ih
            rw [fx_s hk]
            first
            | (rw [if_pos (lip9.mpr ⟨by omega, b2_0.mp (by omega), of_decide_eq_true (b2_1.mp (by omega)), by omega⟩)]; done)
            | (rw [if_neg (fun z => (lip9.mp z).1 (by omega))]; done)
            | (rw [if_neg (fun z => (lip9.mp z).2.1 (b2_1.mp (by omega)))]; done)
            | (rw [if_neg (fun z => b2_0.mp (by omega) (decide_eq_true (lip9.mp z).2.2.1))]; done)
            | (rw [if_neg (fun z => by have z9 := (lip9.mp z).2.2.2; omega)]; done)
          · skip
            refine g_aload_n (i := 2) (pc := 46) dL_press_46 rfl rfl ?_
            refine g_iload (pc := 47) dL_press_47 rfl ?_
            refine g_lald (pc := 49) dL_press_49 ((l_at1 hw)) (by omega) ?_
            refine g_sJ (pc := 50) okS_L_one rfl l_L_50 dL_press_50 (by decide) (by decide) (Nat.le_of_ble_eq_true rfl) (t_L_onex (fr := s_fr τ) (x := s_fr τ k) (by omega)) rfl ?_
            simp only [Option.toList, List.cons_append, List.nil_append]
            have bb := b2_rng (decide (uses (s_fr τ) (s_fr τ k) = 1))
            refine g_z_eq (tgt := 68) (pc := 53) dL_press_53 (by omega) (by decide) (fun c53 => ?_) (fun c53 => ?_)
            · skip
              refine g_iload (pc := 68) dL_press_68 rfl ?_
              refine g_istore (pc := 70) dL_press_70 (by decide) rfl ?_
              simp only [List.set_cons_succ, List.set_cons_zero]
              refine g_iinc (pc := 72) dL_press_72 rfl (by decide) rfl ?_
              simp only [List.set_cons_succ, List.set_cons_zero]
              refine g_goto (tgt := 15) (pc := 75) dL_press_75 (by decide) ?_
              refine G.drop 6 ?_
              simp only [List.set_cons_succ, List.set_cons_zero]
              refine G.eqL (congrArg (fun z => [some (vI n), some (vR a), some (vR (a + 1)), some (vR (a + 2)), some (vI z), some (vI ((k : Int) + (-1))), none, none, none, none, none]) ?_) ih
              rw [fx_s hk]
              first
              | (rw [if_pos (lip9.mpr ⟨by omega, b2_0.mp (by omega), of_decide_eq_true (b2_1.mp (by omega)), by omega⟩)]; done)
              | (rw [if_neg (fun z => (lip9.mp z).1 (by omega))]; done)
              | (rw [if_neg (fun z => (lip9.mp z).2.1 (b2_1.mp (by omega)))]; done)
              | (rw [if_neg (fun z => b2_0.mp (by omega) (decide_eq_true (lip9.mp z).2.2.1))]; done)
              | (rw [if_neg (fun z => by have z9 := (lip9.mp z).2.2.2; omega)]; done)
            · skip
              refine g_aload_n (i := 3) (pc := 56) dL_press_56 rfl rfl ?_
              refine g_iload (pc := 57) dL_press_57 rfl ?_
              refine g_iald (pc := 59) dL_press_59 ((l_at2 hw)) (by omega) ?_
              refine G.eqS (v' := vI (s_va τ ((s_fr τ k)).toNat)) rfl ?_
              have v9 := hi.2.2.2.2.1 (s_fr τ k).toNat
              refine g_z_ne (tgt := 68) (pc := 60) dL_press_60 (by omega) (by decide) (fun c60 => ?_) (fun c60 => ?_)
              · skip
                refine g_iload (pc := 68) dL_press_68 rfl ?_
                refine g_istore (pc := 70) dL_press_70 (by decide) rfl ?_
                simp only [List.set_cons_succ, List.set_cons_zero]
                refine g_iinc (pc := 72) dL_press_72 rfl (by decide) rfl ?_
                simp only [List.set_cons_succ, List.set_cons_zero]
                refine g_goto (tgt := 15) (pc := 75) dL_press_75 (by decide) ?_
                refine G.drop 6 ?_
                simp only [List.set_cons_succ, List.set_cons_zero]
                refine G.eqL (congrArg (fun z => [some (vI n), some (vR a), some (vR (a + 1)), some (vR (a + 2)), some (vI z), some (vI ((k : Int) + (-1))), none, none, none, none, none]) ?_) ih
                rw [fx_s hk]
                first
                | (rw [if_pos (lip9.mpr ⟨by omega, b2_0.mp (by omega), of_decide_eq_true (b2_1.mp (by omega)), by omega⟩)]; done)
                | (rw [if_neg (fun z => (lip9.mp z).1 (by omega))]; done)
                | (rw [if_neg (fun z => (lip9.mp z).2.1 (b2_1.mp (by omega)))]; done)
                | (rw [if_neg (fun z => b2_0.mp (by omega) (decide_eq_true (lip9.mp z).2.2.1))]; done)
                | (rw [if_neg (fun z => by have z9 := (lip9.mp z).2.2.2; omega)]; done)
              · skip
                refine g_iload (pc := 63) dL_press_63 rfl ?_
                refine g_goto (tgt := 70) (pc := 65) dL_press_65 (by decide) ?_
                refine g_istore (pc := 70) dL_press_70 (by decide) rfl ?_
                simp only [List.set_cons_succ, List.set_cons_zero]
                refine g_iinc (pc := 72) dL_press_72 rfl (by decide) rfl ?_
                simp only [List.set_cons_succ, List.set_cons_zero]
                refine g_goto (tgt := 15) (pc := 75) dL_press_75 (by decide) ?_
                refine G.drop 6 ?_
                simp only [List.set_cons_succ, List.set_cons_zero]
                refine G.eqL (congrArg (fun z => [some (vI n), some (vR a), some (vR (a + 1)), some (vR (a + 2)), some (vI z), some (vI ((k : Int) + (-1))), none, none, none, none, none]) ?_) ih
                rw [fx_s hk]
                first
                | (rw [if_pos (lip9.mpr ⟨by omega, b2_0.mp (by omega), of_decide_eq_true (b2_1.mp (by omega)), by omega⟩)]; done)
                | (rw [if_neg (fun z => (lip9.mp z).1 (by omega))]; done)
                | (rw [if_neg (fun z => (lip9.mp z).2.1 (b2_1.mp (by omega)))]; done)
                | (rw [if_neg (fun z => b2_0.mp (by omega) (decide_eq_true (lip9.mp z).2.2.1))]; done)
                | (rw [if_neg (fun z => by have z9 := (lip9.mp z).2.2.2; omega)]; done)
end LC7
