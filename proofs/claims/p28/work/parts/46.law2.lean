/-! THE LAW'S TURN: forks, ends, marriages, tears, pressure, eager or not (printed by wip/p28/law2.py, but for the first rows) -/
section LA8
theorem cW_eq {κ : KT} {o : DT} {a b c a' b' c' : Nat → Int} (h1 : a = a') (h2 : b = b') (h3 : c = c') : cW κ (a, b, c) o = cW κ (a', b', c') o := by rw [h1, h2, h3]
theorem fk_rest (σ : SG) (p c : Int) : ∀ j, (s_fk σ p c j).2.2.2.2 = σ.2.2.2.2 ∧ s_va (s_fk σ p c j) = s_va σ
  | 0 => ⟨rfl, rfl⟩
  | j + 1 => fk_rest σ p c j
theorem fb_rest (σ : SG) (p c : Int) : ∀ j, (s_fb σ p c j).2.2.2.2 = σ.2.2.2.2 ∧ s_va (s_fb σ p c j) = s_va σ
  | 0 => ⟨rfl, rfl⟩
  | j + 1 => fb_rest σ p c j
theorem for_rest (σ : SG) (p : Int) : (s_for σ p).2.2.2.2 = σ.2.2.2.2 ∧ s_va (s_for σ p) = s_va σ := by
  have h1 := fb_rest (s_fk (s_setex σ (lup σ).toNat 1) p (lup σ) 16) p (lup σ) 4
  have h2 := fk_rest (s_setex σ (lup σ).toNat 1) p (lup σ) 16
  exact ⟨h1.1.trans h2.1, h1.2.trans h2.2⟩
theorem le_rest (σ : SG) (p : Int) : ∀ j, (s_le σ p j).2.2.2.2 = σ.2.2.2.2 ∧ s_va (s_le σ p j) = s_va σ
  | 0 => ⟨rfl, rfl⟩
  | j + 1 => le_rest σ p j
theorem ls_rest (σ : SG) (p : Int) : ∀ j, (s_ls σ p j).2.2.2.2 = σ.2.2.2.2 ∧ s_va (s_ls σ p j) = s_va σ
  | 0 => ⟨rfl, rfl⟩
  | j + 1 => ls_rest σ p j
theorem end_rest (σ : SG) (p : Int) : (s_end σ p).2.2.2.2 = σ.2.2.2.2 ∧ s_va (s_end σ p) = s_va σ := by
  have h1 := ls_rest (s_le σ p 16) p 4
  have h2 := le_rest σ p 16
  exact ⟨h1.1.trans h2.1, h1.2.trans h2.2⟩
theorem qf_rest {σ τ : SG} (h : τ.2.2.2.2 = σ.2.2.2.2) : va_up (va_up (qf σ) 0 (bsum (s_ex τ) 4)) 1 (bsum (s_bg τ) 16) = qf τ := by
  funext j
  by_cases q : j = 1
  · subst q; rw [up_s]; rfl
  · rw [up_n q]
    by_cases q0 : j = 0
    · subst q0; rw [up_s]; rfl
    · rw [up_n q0]
      have e1 : s_ea τ = s_ea σ := congrArg (fun z => z.1) h
      have e2 : s_co τ = s_co σ := congrArg (fun z => z.2.1) h
      have e3 : s_fa τ = s_fa σ := congrArg (fun z => z.2.2.1) h
      have e4 : s_te τ = s_te σ := congrArg (fun z => z.2.2.2.1) h
      have e5 : s_lo τ = s_lo σ := congrArg (fun z => z.2.2.2.2) h
      unfold qf
      rw [e1, e2, e3, e4, e5]
      simp only [if_neg q, if_neg q0]
theorem qf_for {σ : SG} (hi : Inv σ) {p : Int} (hP : hasP σ p = true) (hc : lup σ ≠ -1) : va_up (va_up (qf σ) 0 (bsum (va_up (s_ex σ) (lup σ).toNat 1) 4)) 1 (b_or (bsum (s_bg σ) 16) (b_shl (b_and (b_shr (bsum (s_bg σ) 16) (4 * p)) 15) (4 * lup σ))) = qf (s_for σ p) := by
  rw [b_for hi hP hc, ← for_ex (p := p)]
  exact qf_rest (for_rest σ p).1
theorem qf_end {σ : SG} (hi : Inv σ) {p : Int} (hp : 0 ≤ p ∧ p < 4) : va_up (va_up (qf σ) 0 (bsum (va_up (s_ex σ) p.toNat 0) 4)) 1 (b_and (bsum (s_bg σ) 16) (b_xor (b_shl 15 (4 * p)) (-1))) = qf (s_end σ p) := by
  rw [b_end hi hp, ← end_ex (p := p)]
  exact qf_rest (end_rest σ p).1
theorem mix_g {A B : Nat → Int} {k : Nat} {F : Int → Int} (h : F (B k) = A k) : va_up (mix A B k) ((k : Int)).toNat (F (mix A B k ((k : Int)).toNat)) = mix A B (k + 1) := by
  have e : mix A B k ((k : Int)).toNat = B k := by
    unfold mix
    rw [if_neg (by omega), Int.toNat_natCast]
  rw [e, h, ← mix_s, Int.toNat_natCast]
theorem fk_cases (σ : SG) (p : Int) : (hasP σ p = false ∧ xc_fk σ p = 1) ∨ (hasP σ p = true ∧ lup σ = -1 ∧ xc_fk σ p = 2) ∨ (hasP σ p = true ∧ lup σ ≠ -1 ∧ xc_fk σ p = 0) := by
  unfold xc_fk
  cases h : hasP σ p with
  | false => exact Or.inl ⟨rfl, if_neg (by decide)⟩
  | true =>
    rw [if_pos rfl]
    by_cases q : lup σ = -1
    · rw [if_pos q]; exact Or.inr (Or.inl ⟨rfl, q, rfl⟩)
    · rw [if_neg q]; exact Or.inr (Or.inr ⟨rfl, q, rfl⟩)
theorem ex_cases (σ : SG) (p : Int) : (hasP σ p = false ∧ xc_ex σ p = 1) ∨ (hasP σ p = true ∧ ¬ canE σ p = true ∧ xc_ex σ p = 2) ∨ (hasP σ p = true ∧ canE σ p = true ∧ xc_ex σ p = 0) := by
  unfold xc_ex
  cases h : hasP σ p with
  | false => exact Or.inl ⟨rfl, if_neg (by decide)⟩
  | true =>
    rw [if_pos rfl]
    by_cases q : canE σ p = true
    · rw [if_pos q]; exact Or.inr (Or.inr ⟨rfl, q, rfl⟩)
    · rw [if_neg q]; exact Or.inr (Or.inl ⟨rfl, q, rfl⟩)
theorem ma_cases (σ : SG) (p : Int) {g : Int} (hg : 0 ≤ g ∧ g < 4) : (hasP σ p = false ∧ xc_ma σ p g = 1) ∨ (hasP σ p = true ∧ ¬ wn σ p g = 0 ∧ xc_ma σ p g = 2) ∨ (hasP σ p = true ∧ wn σ p g = 0 ∧ xc_ma σ p g = 0) := by
  unfold xc_ma
  rw [gr_of hg]
  cases h : hasP σ p with
  | false => exact Or.inl ⟨rfl, if_neg (by decide)⟩
  | true =>
    rw [if_pos rfl]
    by_cases q : wn σ p g = 0
    · rw [if_pos q]; exact Or.inr (Or.inr ⟨rfl, q, rfl⟩)
    · rw [if_neg q]; exact Or.inr (Or.inl ⟨rfl, q, rfl⟩)
theorem te_cases {σ : SG} (hi : Inv σ) (p : Int) {g : Int} (hg : 0 ≤ g ∧ g < 4) : (hasP σ p = false ∧ ¬ big σ p g = true ∧ xc_te σ p g = 1) ∨ (hasP σ p = true ∧ ¬ big σ p g = true ∧ xc_te σ p g = 2) ∨ (hasP σ p = true ∧ big σ p g = true ∧ xc_te σ p g = 0) := by
  have hb := @big_gr σ hi p g
  unfold xc_te
  rw [gr_of hg] at hb ⊢
  cases h : hasP σ p with
  | false =>
    rw [h] at hb
    exact Or.inl ⟨rfl, fun z => absurd (hb z) (by decide), if_neg (by decide)⟩
  | true =>
    rw [if_pos rfl]
    by_cases q : big σ p g = true
    · rw [if_pos q]; exact Or.inr (Or.inr ⟨rfl, q, rfl⟩)
    · rw [if_neg q]; exact Or.inr (Or.inl ⟨rfl, q, rfl⟩)
theorem shl_rng {p : Int} (hp : 0 ≤ p ∧ p < 4) : 1 ≤ b_shl 1 p ∧ b_shl 1 p ≤ 8 := by
  rcases (by omega : p = 0 ∨ p = 1 ∨ p = 2 ∨ p = 3) with rfl | rfl | rfl | rfl <;> decide
theorem bg_no {σ : SG} (hi : Inv σ) {p g : Int} (hp : 0 ≤ p ∧ p < 4) (hg : 0 ≤ g ∧ g < 4) (h : ¬ big σ p g = true) : s_bg σ (4 * p + g).toNat = 0 := by
  rcases hi.2.2.1 (4 * p + g).toNat with q | q
  · exact q
  · exact absurd (decide_eq_true ⟨hp.1, hp.2, hg.1, hg.2, q⟩) h
theorem te_no {σ : SG} {k : Nat} (h : s_bg σ k = 0) : s_setbg (s_addte σ 0) k 0 = σ := by
  have e : s_addte σ 0 = σ := addte_0 σ
  rw [e]
  unfold s_setbg
  rw [up_id h]
set_option maxRecDepth 20000 in
set_option maxHeartbeats 600000 in
theorem lk_3 {n : Nat} {f : Nat → Int} {t : Nat} (ht : t < 20) {κ : KT} {σ : SG} {o : DT} (hK : KInv κ) (hs : k_ms κ 0 = σ) (hbi : BI σ) (hnx : 0 < nex σ) (hz : ZI o) {x kd p gg g : Int} (h_p : 0 ≤ p ∧ p < 4) (hG : gg = 4 * p + g) (h_g : 0 ≤ g ∧ g < 4) (hT : TL n f t) : G M_L_law (some (n, f)) false false 237 [some (vR SCR), some (vR 0), some (vR 79), some (vR 80), some (vR 81), some (vR 82), some (vR 83), some (vR 84), some (vI (t : Int)), some (vI (x)), some (vI (kd)), some (vI (p)), some (vI (gg)), some (vI (b2 (hasP σ p))), none, none, none] [] (cW κ (lawm σ) o) (5002 + 5100 * (19 - t) + 8) (6 * (5002 + 5100 * (19 - t) + 8)) LQ := by
  have hi : Inv σ := hs ▸ hK.2.2.1 0
  refine G.joinL (T := 264) (L' := [some (vR SCR), some (vR 0), some (vR 79), some (vR 80), some (vR 81), some (vR 82), some (vR 83), some (vR 84), some (vI (t : Int)), some (vI (x)), some (vI (kd)), some (vI (p)), some (vI (gg)), some (vI (b2 (hasP σ p))), some (vI ((if lup σ = -1 then 4 else lup σ))), none, none]) ?_ (fun J => ?_)
  · skip
    have lr9 := lup_rng σ
    rcases fk_cases σ p with ⟨h1, h2⟩ | ⟨h1, h3, h2⟩ | ⟨h1, h3, h2⟩
    · skip
      have b0 : b2 (hasP σ p) = 0 := by rw [h1]; rfl
      refine g_aload_n (i := 1) (pc := 264) dL_law_264 rfl rfl ?_
      refine g_iload (pc := 265) dL_law_265 rfl ?_
      refine g_sxRI (pc := 267) okS_L_fork (by decide) l_L_129 dL_law_267 (by decide) (by decide) (Nat.le_of_ble_eq_true rfl) ⟨by omega, by omega⟩ (t_L_forkN hK hs (p := p) (by omega) h2 (by decide)) ?_
      simp only [Option.toList, List.cons_append, List.nil_append]
      refine g_iload (pc := 270) dL_law_270 rfl ?_
      refine g_z_ne (tgt := 279) (pc := 272) dL_law_272 (by omega) (by decide) (fun c272 => absurd c272 (by omega)) (fun c272 => ?_)
      refine g_iconst (pc := 275) dL_law_275 ?_
      refine g_goto (tgt := 292) (pc := 276) dL_law_276 (by decide) ?_
      refine g_c_eq (tgt := 297) (pc := 292) dL_law_292 (by omega) (by decide) (fun c292 => ?_) (fun c292 => absurd c292 (by omega))
      refine g_iload (pc := 297) dL_law_297 rfl ?_
      refine g_z_eq (tgt := 383) (pc := 299) dL_law_299 (by omega) (by decide) (fun c299 => ?_) (fun c299 => absurd c299 (by omega))
      refine g_goto (tgt := 804) (pc := 383) dL_law_383 (by decide) ?_
      refine G.drop 16 (G.drop 15 (G.drop 14 (G.drop 13 (G.drop 12 (G.drop 11 (G.drop 10 (G.drop 9 ?_)))))))
      simp only [List.set_cons_succ, List.set_cons_zero]
      exact G.bud (hT _ _ _ ⟨hK, hs, hbi, hnx⟩ hz) (by omega) (by omega)
    · skip
      have b0 : b2 (hasP σ p) = 1 := by rw [h1]; rfl
      rw [if_pos h3]
      refine g_aload_n (i := 1) (pc := 264) dL_law_264 rfl rfl ?_
      refine g_iload (pc := 265) dL_law_265 rfl ?_
      refine g_sxRI (pc := 267) okS_L_fork (by decide) l_L_129 dL_law_267 (by decide) (by decide) (Nat.le_of_ble_eq_true rfl) ⟨by omega, by omega⟩ (t_L_forkN hK hs (p := p) (by omega) h2 (by decide)) ?_
      simp only [Option.toList, List.cons_append, List.nil_append]
      refine g_iload (pc := 270) dL_law_270 rfl ?_
      refine g_z_ne (tgt := 279) (pc := 272) dL_law_272 (by omega) (by decide) (fun c272 => ?_) (fun c272 => absurd c272 (by omega))
      refine g_iload (pc := 279) dL_law_279 rfl ?_
      refine g_iconst (pc := 281) dL_law_281 ?_
      refine g_c_ne (tgt := 290) (pc := 282) dL_law_282 (by omega) (by decide) (fun c282 => absurd c282 (by omega)) (fun c282 => ?_)
      refine g_bipush (pc := 285) dL_law_285 (by decide) ?_
      refine g_goto (tgt := 292) (pc := 287) dL_law_287 (by decide) ?_
      refine g_c_eq (tgt := 297) (pc := 292) dL_law_292 (by omega) (by decide) (fun c292 => ?_) (fun c292 => absurd c292 (by omega))
      refine g_iload (pc := 297) dL_law_297 rfl ?_
      refine g_z_eq (tgt := 383) (pc := 299) dL_law_299 (by omega) (by decide) (fun c299 => absurd c299 (by omega)) (fun c299 => ?_)
      refine g_iload (pc := 302) dL_law_302 rfl ?_
      refine g_iconst (pc := 304) dL_law_304 ?_
      refine g_c_ge (tgt := 383) (pc := 305) dL_law_305 (by omega) (by decide) (fun c305 => ?_) (fun c305 => absurd c305 (by omega))
      refine g_goto (tgt := 804) (pc := 383) dL_law_383 (by decide) ?_
      refine G.drop 16 (G.drop 15 (G.drop 14 (G.drop 13 (G.drop 12 (G.drop 11 (G.drop 10 (G.drop 9 ?_)))))))
      simp only [List.set_cons_succ, List.set_cons_zero]
      exact G.bud (hT _ _ _ ⟨hK, hs, hbi, hnx⟩ hz) (by omega) (by omega)
    · skip
      have b0 : b2 (hasP σ p) = 1 := by rw [h1]; rfl
      rw [if_neg h3]
      refine g_aload_n (i := 1) (pc := 264) dL_law_264 rfl rfl ?_
      refine g_iload (pc := 265) dL_law_265 rfl ?_
      refine g_sxRI (pc := 267) okS_L_fork (by decide) l_L_129 dL_law_267 (by decide) (by decide) (Nat.le_of_ble_eq_true rfl) ⟨by omega, by omega⟩ (t_L_forkY hK hs (p := p) (by omega) h2) ?_
      simp only [Option.toList, List.cons_append, List.nil_append]
      generalize hκ9 : k_setms (k_rem κ) 0 (s_for σ p) = κ9
      have hti9 : TI κ9 (s_for σ p) := hκ9 ▸ ti_set hK (inv_for hi h3) (bi_for hi hbi h1 h3) (by rw [nex_for hi h3]; omega)
      refine g_iload (pc := 270) dL_law_270 rfl ?_
      refine g_z_ne (tgt := 279) (pc := 272) dL_law_272 (by omega) (by decide) (fun c272 => ?_) (fun c272 => absurd c272 (by omega))
      refine g_iload (pc := 279) dL_law_279 rfl ?_
      refine g_iconst (pc := 281) dL_law_281 ?_
      refine g_c_ne (tgt := 290) (pc := 282) dL_law_282 (by omega) (by decide) (fun c282 => ?_) (fun c282 => absurd c282 (by omega))
      refine g_iload (pc := 290) dL_law_290 rfl ?_
      refine g_c_eq (tgt := 297) (pc := 292) dL_law_292 (by omega) (by decide) (fun c292 => ?_) (fun c292 => absurd c292 (by omega))
      refine g_iload (pc := 297) dL_law_297 rfl ?_
      refine g_z_eq (tgt := 383) (pc := 299) dL_law_299 (by omega) (by decide) (fun c299 => absurd c299 (by omega)) (fun c299 => ?_)
      refine g_iload (pc := 302) dL_law_302 rfl ?_
      refine g_iconst (pc := 304) dL_law_304 ?_
      refine g_c_ge (tgt := 383) (pc := 305) dL_law_305 (by omega) (by decide) (fun c305 => absurd c305 (by omega)) (fun c305 => ?_)
      refine g_aload_n (i := 2) (pc := 308) dL_law_308 rfl rfl ?_
      refine g_iconst (pc := 309) dL_law_309 ?_
      refine g_dup2 (pc := 310) dL_law_310 (fun z h => nomatch h) (fun z h => nomatch h) ?_
      refine g_iald (pc := 311) dL_law_311 (c_79) (by omega) ?_
      refine G.eqS (v' := vI (bsum (s_ex σ) 4)) rfl ?_
      refine g_iconst (pc := 312) dL_law_312 ?_
      refine g_iload (pc := 313) dL_law_313 rfl ?_
      refine G.eqS (v' := vI (((lup σ).toNat : Nat) : Int)) (congrArg (fun z => vI z) (by omega)) ?_
      refine g_ishl (pc := 315) dL_law_315 ?_
      refine g_ior (pc := 316) dL_law_316 ?_
      refine g_iast (pc := 317) dL_law_317 c_79 (by omega) ?_
      refine G.eqw w_q ?_
      refine G.eqw (w' := cW κ9 (va_up (qf σ) 0 (bsum (va_up (s_ex σ) (lup σ).toNat 1) 4), um (s_fr σ), s_va σ) o) (cW_eq (congrArg (va_up (qf σ) 0) (z_set hi.2.2.2.2.2.2.1 (by decide) (by omega))) rfl rfl) ?_
      refine g_aload_n (i := 2) (pc := 318) dL_law_318 rfl rfl ?_
      refine g_iconst (pc := 319) dL_law_319 ?_
      refine g_dup2 (pc := 320) dL_law_320 (fun z h => nomatch h) (fun z h => nomatch h) ?_
      refine g_iald (pc := 321) dL_law_321 (c_79) (by omega) ?_
      refine G.eqS (v' := vI (bsum (s_bg σ) 16)) rfl ?_
      refine g_aload_n (i := 2) (pc := 322) dL_law_322 rfl rfl ?_
      refine g_iconst (pc := 323) dL_law_323 ?_
      refine g_iald (pc := 324) dL_law_324 (c_79) (by omega) ?_
      refine G.eqS (v' := vI (bsum (s_bg σ) 16)) rfl ?_
      refine g_iconst (pc := 325) dL_law_325 ?_
      refine g_iload (pc := 326) dL_law_326 rfl ?_
      refine g_imul (pc := 328) dL_law_328 ?_
      refine g_ishr (pc := 329) dL_law_329 ?_
      refine g_bipush (pc := 330) dL_law_330 (by decide) ?_
      refine g_iand (pc := 332) dL_law_332 ?_
      refine g_iconst (pc := 333) dL_law_333 ?_
      refine g_iload (pc := 334) dL_law_334 rfl ?_
      refine g_imul (pc := 336) dL_law_336 ?_
      refine g_ishl (pc := 337) dL_law_337 ?_
      refine g_ior (pc := 338) dL_law_338 ?_
      refine g_iast (pc := 339) dL_law_339 c_79 (by omega) ?_
      refine G.eqw w_q ?_
      refine G.eqw (w' := cW κ9 (qf (s_for σ p), mix (um (s_fr (s_for σ p))) (um (s_fr σ)) 0, s_va σ) o) (cW_eq (qf_for hi h1 h3) (mix_0 _ _).symm rfl) ?_
      refine g_iconst (pc := 340) dL_law_340 ?_
      refine g_istore (pc := 341) dL_law_341 (by decide) rfl ?_
      simp only [List.set_cons_succ, List.set_cons_zero]
      refine lp_up (P := fun j => G M_L_law (some (n, f)) false false 343 [some (vR SCR), some (vR 0), some (vR 79), some (vR 80), some (vR 81), some (vR 82), some (vR 83), some (vR 84), some (vI (t : Int)), some (vI (x)), some (vI (kd)), some (vI (p)), some (vI (gg)), some (vI (b2 (hasP σ p))), some (vI (lup σ)), some (vI ((j : Int))), none] [] (cW κ9 (qf (s_for σ p), mix (um (s_fr (s_for σ p))) (um (s_fr σ)) j, s_va σ) o) (5002 + 5100 * (19 - t) + 8 - 2) (6 * (5002 + 5100 * (19 - t) + 8) - 12) LQ) 32 ?_ ?_ 0 (Nat.zero_le _)
      · refine G.eqw (w' := cW κ9 (lawm (s_for σ p)) o) (cW_eq rfl (mix_n (zi_lawm (inv_for hi (p := p) h3)).2.1 (zi_lawm hi).2.1) (for_rest σ p).2.symm) ?_
        refine g_iload (pc := 343) dL_law_343 rfl ?_
        refine g_bipush (pc := 345) dL_law_345 (by decide) ?_
        refine g_c_ge (tgt := 383) (pc := 347) dL_law_347 (by omega) (by decide) (fun c347 => ?_) (fun c347 => absurd c347 (by omega))
        refine g_goto (tgt := 804) (pc := 383) dL_law_383 (by decide) ?_
        refine G.drop 16 (G.drop 15 (G.drop 14 (G.drop 13 (G.drop 12 (G.drop 11 (G.drop 10 (G.drop 9 ?_)))))))
        simp only [List.set_cons_succ, List.set_cons_zero]
        exact G.bud (hT _ _ _ hti9 hz) (by omega) (by omega)
      · intro j hj ih
        show G _ _ _ _ _ _ _ _ _ _ _
        refine g_iload (pc := 343) dL_law_343 rfl ?_
        refine g_bipush (pc := 345) dL_law_345 (by decide) ?_
        refine g_c_ge (tgt := 383) (pc := 347) dL_law_347 (by omega) (by decide) (fun c347 => absurd c347 (by omega)) (fun c347 => ?_)
        refine g_aload_n (i := 3) (pc := 350) dL_law_350 rfl rfl ?_
        refine g_iload (pc := 351) dL_law_351 rfl ?_
        refine g_dup2 (pc := 353) dL_law_353 (fun z h => nomatch h) (fun z h => nomatch h) ?_
        refine g_lald (pc := 354) dL_law_354 (c_80) (by omega) ?_
        refine g_aload_n (i := 3) (pc := 355) dL_law_355 rfl rfl ?_
        refine g_iload (pc := 356) dL_law_356 rfl ?_
        refine g_lald (pc := 358) dL_law_358 (c_80) (by omega) ?_
        refine g_bipush (pc := 359) dL_law_359 (by decide) ?_
        refine g_iload (pc := 361) dL_law_361 rfl ?_
        refine g_imul (pc := 363) dL_law_363 ?_
        refine g_lshr (pc := 364) dL_law_364 ?_
        refine g_ldc2 (n := 65535) (pc := 365) co_L_132 dL_law_365 rfl ?_
        refine g_land (pc := 368) dL_law_368 ?_
        refine g_bipush (pc := 369) dL_law_369 (by decide) ?_
        refine g_iload (pc := 371) dL_law_371 rfl ?_
        refine g_imul (pc := 373) dL_law_373 ?_
        refine g_lshl (pc := 374) dL_law_374 ?_
        refine g_lor (pc := 375) dL_law_375 ?_
        refine g_last (pc := 376) dL_law_376 c_80 (by omega) ?_
        refine G.eqw w_u ?_
        refine G.eqw (w' := cW κ9 (qf (s_for σ p), mix (um (s_fr (s_for σ p))) (um (s_fr σ)) (j + 1), s_va σ) o) (cW_eq rfl (mix_g (F := fun m => b_orL m (b_shlL (b_andL (b_shrL m (16 * p)) 65535) (16 * lup σ))) (um_for hi h1 h3 j)) rfl) ?_
        refine g_iinc (pc := 377) dL_law_377 rfl (by decide) rfl ?_
        simp only [List.set_cons_succ, List.set_cons_zero]
        refine g_goto (tgt := 343) (pc := 380) dL_law_380 (by decide) ?_
        exact ih
  · skip
    refine g_iconst (pc := 237) dL_law_237 ?_
    refine g_istore (pc := 238) dL_law_238 (by decide) rfl ?_
    simp only [List.set_cons_succ, List.set_cons_zero]
    refine lp_up (P := fun j => (∀ i : Nat, i < j → hasP σ i = true) → G M_L_law (some (n, f)) false false 240 [some (vR SCR), some (vR 0), some (vR 79), some (vR 80), some (vR 81), some (vR 82), some (vR 83), some (vR 84), some (vI (t : Int)), some (vI (x)), some (vI (kd)), some (vI (p)), some (vI (gg)), some (vI (b2 (hasP σ p))), some (vI ((j : Int))), none, none] [] (cW κ (lawm σ) o) (5002 + 5100 * (19 - t) + 8) (6 * (5002 + 5100 * (19 - t) + 8)) LQ) 4 ?_ ?_ 0 (Nat.zero_le _) (fun i h => absurd h (Nat.not_lt_zero i))
    · intro hH
      have hnone : lup σ = -1 := ff_none (fun j hj z => by rw [hH j hj] at z; exact absurd z (by decide))
      refine g_iload (pc := 240) dL_law_240 rfl ?_
      refine g_iconst (pc := 242) dL_law_242 ?_
      refine g_c_ge (tgt := 264) (pc := 243) dL_law_243 (by omega) (by decide) (fun c243 => ?_) (fun c243 => absurd c243 (by omega))
      refine G.eqL (congrArg (fun z => [some (vR SCR), some (vR 0), some (vR 79), some (vR 80), some (vR 81), some (vR 82), some (vR 83), some (vR 84), some (vI (t : Int)), some (vI (x)), some (vI (kd)), some (vI (p)), some (vI (gg)), some (vI (b2 (hasP σ p))), some (vI z), none, none]) ?_) J
      first
      | (rw [if_pos hnone]; rfl)
      | (rw [if_neg (by omega), hj9]; done)
    · intro j hj ih hH
      show G _ _ _ _ _ _ _ _ _ _ _
      refine g_iload (pc := 240) dL_law_240 rfl ?_
      refine g_iconst (pc := 242) dL_law_242 ?_
      refine g_c_ge (tgt := 264) (pc := 243) dL_law_243 (by omega) (by decide) (fun c243 => absurd c243 (by omega)) (fun c243 => ?_)
      refine g_aload_n (i := 2) (pc := 246) dL_law_246 rfl rfl ?_
      refine g_iconst (pc := 247) dL_law_247 ?_
      refine g_iald (pc := 248) dL_law_248 (c_79) (by omega) ?_
      refine G.eqS (v' := vI (bsum (s_ex σ) 4)) rfl ?_
      refine g_iload (pc := 249) dL_law_249 rfl ?_
      refine g_ishr (pc := 251) dL_law_251 ?_
      refine g_iconst (pc := 252) dL_law_252 ?_
      refine g_iand (pc := 253) dL_law_253 ?_
      refine G.eqS (congrArg (fun z => vI z) (bit_ex hi (p := (j : Int)) (by omega))) ?_
      have xb9 := b2_rng (hasP σ (j : Int))
      refine g_iconst (pc := 254) dL_law_254 ?_
      refine g_c_ne (tgt := 264) (pc := 255) dL_law_255 (by omega) (by decide) (fun c255 => ?_) (fun c255 => ?_)
      · skip
        have hj9 : lup σ = (j : Int) := ff_some (p := fun p => !(hasP σ p)) (k := j) (by rw [Bool.not_eq_true', ← Bool.not_eq_true]; exact b2_0.mp (by omega)) (fun i h z => by rw [hH i h] at z; exact absurd z (by decide)) hj
        refine G.eqL (congrArg (fun z => [some (vR SCR), some (vR 0), some (vR 79), some (vR 80), some (vR 81), some (vR 82), some (vR 83), some (vR 84), some (vI (t : Int)), some (vI (x)), some (vI (kd)), some (vI (p)), some (vI (gg)), some (vI (b2 (hasP σ p))), some (vI z), none, none]) ?_) J
        first
        | (rw [if_pos hnone]; rfl)
        | (rw [if_neg (by omega), hj9]; done)
      · skip
        refine g_iinc (pc := 258) dL_law_258 rfl (by decide) rfl ?_
        simp only [List.set_cons_succ, List.set_cons_zero]
        refine g_goto (tgt := 240) (pc := 261) dL_law_261 (by decide) ?_
        refine ih (fun i h => ?_)
        rcases Nat.lt_or_ge i j with q | q
        · exact hH i q
        · rw [show i = j by omega]; exact b2_1.mp (by omega)
set_option maxRecDepth 20000 in
set_option maxHeartbeats 600000 in
theorem lk_4 {n : Nat} {f : Nat → Int} {t : Nat} (ht : t < 20) {κ : KT} {σ : SG} {o : DT} (hK : KInv κ) (hs : k_ms κ 0 = σ) (hbi : BI σ) (hnx : 0 < nex σ) (hz : ZI o) {x kd p gg g : Int} (h_p : 0 ≤ p ∧ p < 4) (hG : gg = 4 * p + g) (h_g : 0 ≤ g ∧ g < 4) (hT : TL n f t) : G M_L_law (some (n, f)) false false 392 [some (vR SCR), some (vR 0), some (vR 79), some (vR 80), some (vR 81), some (vR 82), some (vR 83), some (vR 84), some (vI (t : Int)), some (vI (x)), some (vI (kd)), some (vI (p)), some (vI (gg)), some (vI (b2 (hasP σ p))), none, none, none] [] (cW κ (lawm σ) o) (5002 + 5100 * (19 - t) + 8) (6 * (5002 + 5100 * (19 - t) + 8)) LQ := by
  have hi : Inv σ := hs ▸ hK.2.2.1 0
  refine g_aload_n (i := 2) (pc := 392) dL_law_392 rfl rfl ?_
  refine g_iconst (pc := 393) dL_law_393 ?_
  refine g_iald (pc := 394) dL_law_394 (c_79) (by omega) ?_
  refine G.eqS (v' := vI (bsum (s_ex σ) 4)) rfl ?_
  refine g_iconst (pc := 395) dL_law_395 ?_
  refine g_iload (pc := 396) dL_law_396 rfl ?_
  have sr9 := shl_rng h_p
  have er9 := ex_rng hi
  refine g_ishl (pc := 398) dL_law_398 ?_
  refine G.join2 (T := 407) (v := b2 (decide (bsum (s_ex σ) 4 = b_shl 1 p))) ?_ (fun J => ?_)
  · skip
    refine g_istore (pc := 407) dL_law_407 (by decide) rfl ?_
    simp only [List.set_cons_succ, List.set_cons_zero]
    refine g_aload_n (i := 3) (pc := 409) dL_law_409 rfl rfl ?_
    refine g_sR (pc := 410) okS_L_free rfl l_L_72 dL_law_410 (by decide) (by decide) (Nat.le_of_ble_eq_true rfl) (t_L_free (σ := σ) c_80 hi) rfl ?_
    simp only [Option.toList, List.cons_append, List.nil_append]
    have bb := nff_rng σ
    refine g_istore (pc := 413) dL_law_413 (by decide) rfl ?_
    simp only [List.set_cons_succ, List.set_cons_zero]
    rcases ex_cases σ p with ⟨h1, h2⟩ | ⟨h1, h3, h2⟩ | ⟨h1, h3, h2⟩
    · skip
      have b0 : b2 (hasP σ p) = 0 := by rw [h1]; rfl
      refine g_iload (pc := 415) dL_law_415 rfl ?_
      refine g_z_eq (tgt := 488) (pc := 417) dL_law_417 (by omega) (by decide) (fun c417 => ?_) (fun c417 => absurd c417 (by omega))
      refine g_aload_n (i := 1) (pc := 488) dL_law_488 rfl rfl ?_
      refine g_iload (pc := 489) dL_law_489 rfl ?_
      refine g_sxRI (pc := 491) okS_L_exit (by decide) l_L_134 dL_law_491 (by decide) (by decide) (Nat.le_of_ble_eq_true rfl) ⟨by omega, by omega⟩ (t_L_exitN hK hs (p := p) (by omega) h2 (by decide)) ?_
      simp only [Option.toList, List.cons_append, List.nil_append]
      refine g_iload (pc := 494) dL_law_494 rfl ?_
      refine g_z_ne (tgt := 503) (pc := 496) dL_law_496 (by omega) (by decide) (fun c496 => absurd c496 (by omega)) (fun c496 => ?_)
      refine g_iconst (pc := 499) dL_law_499 ?_
      refine g_goto (tgt := 520) (pc := 500) dL_law_500 (by decide) ?_
      refine g_c_eq (tgt := 525) (pc := 520) dL_law_520 (by omega) (by decide) (fun c520 => ?_) (fun c520 => absurd c520 (by omega))
      refine g_goto (tgt := 804) (pc := 525) dL_law_525 (by decide) ?_
      refine G.drop 16 (G.drop 15 (G.drop 14 (G.drop 13 (G.drop 12 (G.drop 11 (G.drop 10 (G.drop 9 ?_)))))))
      simp only [List.set_cons_succ, List.set_cons_zero]
      exact G.bud (hT _ _ _ ⟨hK, hs, hbi, hnx⟩ hz) (by omega) (by omega)
    · skip
      have b0 : b2 (hasP σ p) = 1 := by rw [h1]; rfl
      have o1 : b2 (decide (bsum (s_ex σ) 4 = b_shl 1 p)) = 1 := b2_t (decide_eq_true ((only_iff hi h1).mpr h3))
      refine g_iload (pc := 415) dL_law_415 rfl ?_
      refine g_z_eq (tgt := 488) (pc := 417) dL_law_417 (by omega) (by decide) (fun c417 => absurd c417 (by omega)) (fun c417 => ?_)
      refine g_iload (pc := 420) dL_law_420 rfl ?_
      refine g_z_ne (tgt := 488) (pc := 422) dL_law_422 (by omega) (by decide) (fun c422 => ?_) (fun c422 => absurd c422 (by omega))
      refine g_aload_n (i := 1) (pc := 488) dL_law_488 rfl rfl ?_
      refine g_iload (pc := 489) dL_law_489 rfl ?_
      refine g_sxRI (pc := 491) okS_L_exit (by decide) l_L_134 dL_law_491 (by decide) (by decide) (Nat.le_of_ble_eq_true rfl) ⟨by omega, by omega⟩ (t_L_exitN hK hs (p := p) (by omega) h2 (by decide)) ?_
      simp only [Option.toList, List.cons_append, List.nil_append]
      refine g_iload (pc := 494) dL_law_494 rfl ?_
      refine g_z_ne (tgt := 503) (pc := 496) dL_law_496 (by omega) (by decide) (fun c496 => ?_) (fun c496 => absurd c496 (by omega))
      refine g_iload (pc := 503) dL_law_503 rfl ?_
      refine g_z_eq (tgt := 513) (pc := 505) dL_law_505 (by omega) (by decide) (fun c505 => absurd c505 (by omega)) (fun c505 => ?_)
      refine g_bipush (pc := 508) dL_law_508 (by decide) ?_
      refine g_goto (tgt := 520) (pc := 510) dL_law_510 (by decide) ?_
      refine g_c_eq (tgt := 525) (pc := 520) dL_law_520 (by omega) (by decide) (fun c520 => ?_) (fun c520 => absurd c520 (by omega))
      refine g_goto (tgt := 804) (pc := 525) dL_law_525 (by decide) ?_
      refine G.drop 16 (G.drop 15 (G.drop 14 (G.drop 13 (G.drop 12 (G.drop 11 (G.drop 10 (G.drop 9 ?_)))))))
      simp only [List.set_cons_succ, List.set_cons_zero]
      exact G.bud (hT _ _ _ ⟨hK, hs, hbi, hnx⟩ hz) (by omega) (by omega)
    · skip
      have b0 : b2 (hasP σ p) = 1 := by rw [h1]; rfl
      have o1 : b2 (decide (bsum (s_ex σ) 4 = b_shl 1 p)) = 0 := b2_f (fun z => (only_iff hi h1).mp (of_decide_eq_true z) h3)
      have hE9 := end_rest σ p
      refine g_iload (pc := 415) dL_law_415 rfl ?_
      refine g_z_eq (tgt := 488) (pc := 417) dL_law_417 (by omega) (by decide) (fun c417 => absurd c417 (by omega)) (fun c417 => ?_)
      refine g_iload (pc := 420) dL_law_420 rfl ?_
      refine g_z_ne (tgt := 488) (pc := 422) dL_law_422 (by omega) (by decide) (fun c422 => absurd c422 (by omega)) (fun c422 => ?_)
      refine g_aload_n (i := 2) (pc := 425) dL_law_425 rfl rfl ?_
      refine g_iconst (pc := 426) dL_law_426 ?_
      refine g_dup2 (pc := 427) dL_law_427 (fun z h => nomatch h) (fun z h => nomatch h) ?_
      refine g_iald (pc := 428) dL_law_428 (c_79) (by omega) ?_
      refine G.eqS (v' := vI (bsum (s_ex σ) 4)) rfl ?_
      refine g_iconst (pc := 429) dL_law_429 ?_
      refine g_iload (pc := 430) dL_law_430 rfl ?_
      refine G.eqS (v' := vI ((p.toNat : Nat) : Int)) (congrArg (fun z => vI z) (by omega)) ?_
      refine g_ishl (pc := 432) dL_law_432 ?_
      refine g_iconst (pc := 433) dL_law_433 ?_
      refine g_ixor (pc := 434) dL_law_434 ?_
      refine g_iand (pc := 435) dL_law_435 ?_
      refine g_iast (pc := 436) dL_law_436 c_79 (by omega) ?_
      refine G.eqw w_q ?_
      refine G.eqw (w' := cW κ (va_up (qf σ) 0 (bsum (va_up (s_ex σ) p.toNat 0) 4), um (s_fr σ), s_va σ) o) (cW_eq (congrArg (va_up (qf σ) 0) (z_clr hi.2.2.2.2.2.2.1 (by decide) (by omega))) rfl rfl) ?_
      refine g_aload_n (i := 2) (pc := 437) dL_law_437 rfl rfl ?_
      refine g_iconst (pc := 438) dL_law_438 ?_
      refine g_dup2 (pc := 439) dL_law_439 (fun z h => nomatch h) (fun z h => nomatch h) ?_
      refine g_iald (pc := 440) dL_law_440 (c_79) (by omega) ?_
      refine G.eqS (v' := vI (bsum (s_bg σ) 16)) rfl ?_
      refine g_bipush (pc := 441) dL_law_441 (by decide) ?_
      refine g_iconst (pc := 443) dL_law_443 ?_
      refine g_iload (pc := 444) dL_law_444 rfl ?_
      refine g_imul (pc := 446) dL_law_446 ?_
      refine g_ishl (pc := 447) dL_law_447 ?_
      refine g_iconst (pc := 448) dL_law_448 ?_
      refine g_ixor (pc := 449) dL_law_449 ?_
      refine g_iand (pc := 450) dL_law_450 ?_
      refine g_iast (pc := 451) dL_law_451 c_79 (by omega) ?_
      refine G.eqw w_q ?_
      refine G.eqw (w' := cW κ (qf (s_end σ p), mix (um (s_fr (s_end σ p))) (um (s_fr σ)) 0, s_va σ) o) (cW_eq (qf_end hi h_p) (mix_0 _ _).symm rfl) ?_
      refine g_iconst (pc := 452) dL_law_452 ?_
      refine g_istore (pc := 453) dL_law_453 (by decide) rfl ?_
      simp only [List.set_cons_succ, List.set_cons_zero]
      refine lp_up (P := fun j => G M_L_law (some (n, f)) false false 455 [some (vR SCR), some (vR 0), some (vR 79), some (vR 80), some (vR 81), some (vR 82), some (vR 83), some (vR 84), some (vI (t : Int)), some (vI (x)), some (vI (kd)), some (vI (p)), some (vI (gg)), some (vI (b2 (hasP σ p))), some (vI (b2 (decide (bsum (s_ex σ) 4 = b_shl 1 p)))), some (vI (nff σ)), some (vI ((j : Int)))] [] (cW κ (qf (s_end σ p), mix (um (s_fr (s_end σ p))) (um (s_fr σ)) j, s_va σ) o) (5002 + 5100 * (19 - t) + 8) (6 * (5002 + 5100 * (19 - t) + 8)) LQ) 32 ?_ ?_ 0 (Nat.zero_le _)
      · refine G.eqw (w' := cW κ (lawm (s_end σ p)) o) (cW_eq rfl (mix_n (zi_lawm (inv_end hi h_p)).2.1 (zi_lawm hi).2.1) (end_rest σ p).2.symm) ?_
        refine g_iload (pc := 455) dL_law_455 rfl ?_
        refine g_bipush (pc := 457) dL_law_457 (by decide) ?_
        refine g_c_ge (tgt := 488) (pc := 459) dL_law_459 (by omega) (by decide) (fun c459 => ?_) (fun c459 => absurd c459 (by omega))
        refine g_aload_n (i := 1) (pc := 488) dL_law_488 rfl rfl ?_
        refine g_iload (pc := 489) dL_law_489 rfl ?_
        refine g_sxRI (pc := 491) okS_L_exit (by decide) l_L_134 dL_law_491 (by decide) (by decide) (Nat.le_of_ble_eq_true rfl) ⟨by omega, by omega⟩ (t_L_exitY hK hs (p := p) (by omega) h2) ?_
        simp only [Option.toList, List.cons_append, List.nil_append]
        generalize hκ9 : k_setms (k_rem κ) 0 (s_end σ p) = κ9
        have hti9 : TI κ9 (s_end σ p) := hκ9 ▸ ti_set hK (inv_end hi h_p) (bi_end hbi h_p) (nex_end h3)
        have nl9 := nff_rng (s_le σ p 16)
        refine g_iload (pc := 494) dL_law_494 rfl ?_
        refine g_z_ne (tgt := 503) (pc := 496) dL_law_496 (by omega) (by decide) (fun c496 => ?_) (fun c496 => absurd c496 (by omega))
        refine g_iload (pc := 503) dL_law_503 rfl ?_
        refine g_z_eq (tgt := 513) (pc := 505) dL_law_505 (by omega) (by decide) (fun c505 => ?_) (fun c505 => absurd c505 (by omega))
        refine g_aload_n (i := 3) (pc := 513) dL_law_513 rfl rfl ?_
        refine g_sR (pc := 514) okS_L_free rfl l_L_72 dL_law_514 (by decide) (by decide) (Nat.le_of_ble_eq_true rfl) (t_L_free (σ := s_end σ p) c_80 (inv_end hi h_p)) rfl ?_
        simp only [Option.toList, List.cons_append, List.nil_append]
        refine G.eqS (congrArg (fun z => vI z) (s_ext_end σ p)) ?_
        refine g_iload (pc := 517) dL_law_517 rfl ?_
        refine g_isub (pc := 519) dL_law_519 ?_
        refine g_c_eq (tgt := 525) (pc := 520) dL_law_520 (by omega) (by decide) (fun c520 => ?_) (fun c520 => absurd c520 (by omega))
        refine g_goto (tgt := 804) (pc := 525) dL_law_525 (by decide) ?_
        refine G.drop 16 (G.drop 15 (G.drop 14 (G.drop 13 (G.drop 12 (G.drop 11 (G.drop 10 (G.drop 9 ?_)))))))
        simp only [List.set_cons_succ, List.set_cons_zero]
        exact G.bud (hT _ _ _ hti9 hz) (by omega) (by omega)
      · intro j hj ih
        show G _ _ _ _ _ _ _ _ _ _ _
        refine g_iload (pc := 455) dL_law_455 rfl ?_
        refine g_bipush (pc := 457) dL_law_457 (by decide) ?_
        refine g_c_ge (tgt := 488) (pc := 459) dL_law_459 (by omega) (by decide) (fun c459 => absurd c459 (by omega)) (fun c459 => ?_)
        refine g_aload_n (i := 3) (pc := 462) dL_law_462 rfl rfl ?_
        refine g_iload (pc := 463) dL_law_463 rfl ?_
        refine g_dup2 (pc := 465) dL_law_465 (fun z h => nomatch h) (fun z h => nomatch h) ?_
        refine g_lald (pc := 466) dL_law_466 (c_80) (by omega) ?_
        refine g_ldc2 (n := 65535) (pc := 467) co_L_132 dL_law_467 rfl ?_
        refine g_bipush (pc := 470) dL_law_470 (by decide) ?_
        refine g_iload (pc := 472) dL_law_472 rfl ?_
        refine g_imul (pc := 474) dL_law_474 ?_
        refine g_lshl (pc := 475) dL_law_475 ?_
        refine g_ldc2 (n := -1) (pc := 476) co_L_64 dL_law_476 rfl ?_
        refine g_lxor (pc := 479) dL_law_479 ?_
        refine g_land (pc := 480) dL_law_480 ?_
        refine g_last (pc := 481) dL_law_481 c_80 (by omega) ?_
        refine G.eqw w_u ?_
        refine G.eqw (w' := cW κ (qf (s_end σ p), mix (um (s_fr (s_end σ p))) (um (s_fr σ)) (j + 1), s_va σ) o) (cW_eq rfl (mix_g (F := fun m => b_andL m (b_xorL (b_shlL 65535 (16 * p)) (-1))) (um_end h_p j)) rfl) ?_
        refine g_iinc (pc := 482) dL_law_482 rfl (by decide) rfl ?_
        simp only [List.set_cons_succ, List.set_cons_zero]
        refine g_goto (tgt := 455) (pc := 485) dL_law_485 (by decide) ?_
        exact ih
  · skip
    refine g_c_ne (tgt := 406) (pc := 399) dL_law_399 (by omega) (by decide) (fun c399 => ?_) (fun c399 => ?_)
    · skip
      refine g_iconst (pc := 406) dL_law_406 ?_
      refine G.eqS (congrArg (fun z => vI z) ?_) J
      first
      | exact (b2_t (decide_eq_true (by omega))).symm
      | exact (b2_f (fun z => by have z9 := of_decide_eq_true z; omega)).symm
    · skip
      refine g_iconst (pc := 402) dL_law_402 ?_
      refine g_goto (tgt := 407) (pc := 403) dL_law_403 (by decide) ?_
      refine G.eqS (congrArg (fun z => vI z) ?_) J
      first
      | exact (b2_t (decide_eq_true (by omega))).symm
      | exact (b2_f (fun z => by have z9 := of_decide_eq_true z; omega)).symm
set_option maxRecDepth 20000 in
set_option maxHeartbeats 600000 in
theorem lk_5 {n : Nat} {f : Nat → Int} {t : Nat} (ht : t < 20) {κ : KT} {σ : SG} {o : DT} (hK : KInv κ) (hs : k_ms κ 0 = σ) (hbi : BI σ) (hnx : 0 < nex σ) (hz : ZI o) {x kd p gg g : Int} (h_p : 0 ≤ p ∧ p < 4) (hG : gg = 4 * p + g) (h_g : 0 ≤ g ∧ g < 4) (hT : TL n f t) : G M_L_law (some (n, f)) false false 534 [some (vR SCR), some (vR 0), some (vR 79), some (vR 80), some (vR 81), some (vR 82), some (vR 83), some (vR 84), some (vI (t : Int)), some (vI (x)), some (vI (kd)), some (vI (p)), some (vI (gg)), some (vI (b2 (hasP σ p))), none, none, none] [] (cW κ (lawm σ) o) (5002 + 5100 * (19 - t) + 8) (6 * (5002 + 5100 * (19 - t) + 8)) LQ := by
  have hi : Inv σ := hs ▸ hK.2.2.1 0
  refine g_iload (pc := 534) dL_law_534 rfl ?_
  refine g_bipush (pc := 536) dL_law_536 (by decide) ?_
  refine g_ishr (pc := 538) dL_law_538 ?_
  refine g_iconst (pc := 539) dL_law_539 ?_
  refine g_sII (pc := 540) okS_L_low rfl l_L_123 dL_law_540 (by decide) (by decide) (Nat.le_of_ble_eq_true rfl) (t_L_low (by omega)) rfl ?_
  simp only [Option.toList, List.cons_append, List.nil_append]
  have bb := lowv_rng ((b_shr x 7)) (n := 2) (by omega)
  refine g_z_ne (tgt := 579) (pc := 543) dL_law_543 (by omega) (by decide) (fun c543 => ?_) (fun c543 => ?_)
  · skip
    refine g_aload_n (i := 2) (pc := 579) dL_law_579 rfl rfl ?_
    refine g_iconst (pc := 580) dL_law_580 ?_
    refine g_iald (pc := 581) dL_law_581 (c_79) (by omega) ?_
    refine G.eqS (v' := vI (bsum (s_bg σ) 16)) rfl ?_
    refine g_iload (pc := 582) dL_law_582 rfl ?_
    refine g_ishr (pc := 584) dL_law_584 ?_
    refine g_iconst (pc := 585) dL_law_585 ?_
    refine g_iand (pc := 586) dL_law_586 ?_
    refine G.eqS (congrArg (fun z => vI z) (bit_bg (σ := σ) hi hG h_p h_g)) ?_
    have bb9 := b2_rng (big σ p g)
    refine g_iconst (pc := 587) dL_law_587 ?_
    refine G.join2 (T := 596) (v := b2 (big σ p g)) ?_ (fun J => ?_)
    · skip
      refine g_istore (pc := 596) dL_law_596 (by decide) rfl ?_
      simp only [List.set_cons_succ, List.set_cons_zero]
      refine g_iload (pc := 598) dL_law_598 rfl ?_
      refine G.join1 (T := 618) (v := (if big σ p g = true then ro σ p g else -2)) ?_ (fun J => ?_)
      · skip
        have ror := ro_rng hi p g
        refine g_istore (pc := 618) dL_law_618 (by decide) rfl ?_
        simp only [List.set_cons_succ, List.set_cons_zero]
        rcases te_cases hi p h_g with ⟨h1, h3, h2⟩ | ⟨h1, h3, h2⟩ | ⟨h1, h3, h2⟩
        · skip
          have b0 : b2 (hasP σ p) = 0 := by rw [h1]; rfl
          have t0 := b2_f h3
          rw [if_neg h3]
          refine g_aload_n (i := 1) (pc := 620) dL_law_620 rfl rfl ?_
          refine g_iload (pc := 621) dL_law_621 rfl ?_
          refine g_iload (pc := 623) dL_law_623 rfl ?_
          refine g_iconst (pc := 625) dL_law_625 ?_
          refine g_irem (pc := 626) dL_law_626 (by omega) (by omega) ?_
          refine G.eqS (congrArg (fun z => vI z) ((show Int.tmod gg 4 = g by rw [Int.tmod_eq_emod_of_nonneg (by omega)]; omega))) ?_
          refine g_sxRII (pc := 627) okS_L_tear (by decide) l_L_139 dL_law_627 (by decide) (by decide) (Nat.le_of_ble_eq_true rfl) ⟨by omega, by omega⟩ (t_L_tearN hK hs (p := p) (g := g) (by omega) (by omega) h2 (by decide)) ?_
          simp only [Option.toList, List.cons_append, List.nil_append]
          refine g_iload (pc := 630) dL_law_630 rfl ?_
          refine g_z_eq (tgt := 640) (pc := 632) dL_law_632 (by omega) (by decide) (fun c632 => ?_) (fun c632 => absurd c632 (by omega))
          refine g_iconst (pc := 640) dL_law_640 ?_
          refine g_c_eq (tgt := 646) (pc := 641) dL_law_641 (by omega) (by decide) (fun c641 => ?_) (fun c641 => absurd c641 (by omega))
          refine g_aload_n (i := 2) (pc := 646) dL_law_646 rfl rfl ?_
          refine g_iconst (pc := 647) dL_law_647 ?_
          refine g_dup2 (pc := 648) dL_law_648 (fun z h => nomatch h) (fun z h => nomatch h) ?_
          refine g_iald (pc := 649) dL_law_649 (c_79) (by omega) ?_
          refine G.eqS (v' := vI (s_te σ)) rfl ?_
          refine g_iload (pc := 650) dL_law_650 rfl ?_
          refine g_z_eq (tgt := 659) (pc := 652) dL_law_652 (by omega) (by decide) (fun c652 => ?_) (fun c652 => absurd c652 (by omega))
          refine g_iconst (pc := 659) dL_law_659 ?_
          refine g_iadd (pc := 660) dL_law_660 ?_
          refine g_iast (pc := 661) dL_law_661 c_79 (by omega) ?_
          refine G.eqw w_q ?_
          refine G.eqw (w' := cW κ (lawm (s_addte σ 0)) o) (cW_eq (qf_te σ 0) rfl rfl) ?_
          refine g_aload_n (i := 2) (pc := 662) dL_law_662 rfl rfl ?_
          refine g_iconst (pc := 663) dL_law_663 ?_
          refine g_dup2 (pc := 664) dL_law_664 (fun z h => nomatch h) (fun z h => nomatch h) ?_
          refine g_iald (pc := 665) dL_law_665 (c_79) (by omega) ?_
          refine G.eqS (v' := vI (bsum (s_bg σ) 16)) rfl ?_
          refine g_iconst (pc := 666) dL_law_666 ?_
          refine g_iload (pc := 667) dL_law_667 rfl ?_
          refine G.eqS (v' := vI ((gg.toNat : Nat) : Int)) (congrArg (fun z => vI z) (by omega)) ?_
          refine g_ishl (pc := 669) dL_law_669 ?_
          refine g_iconst (pc := 670) dL_law_670 ?_
          refine g_ixor (pc := 671) dL_law_671 ?_
          refine g_iand (pc := 672) dL_law_672 ?_
          refine g_iast (pc := 673) dL_law_673 c_79 (by omega) ?_
          refine G.eqw w_q ?_
          have e9 : s_setbg (s_addte σ 0) gg.toNat 0 = σ := te_no (by rw [hG]; exact bg_no hi h_p h_g h3)
          refine G.eqw (w' := cW κ (lawm (s_setbg (s_addte σ 0) gg.toNat 0)) o) (cW_eq (qf_sml2 (σ := s_addte σ 0) hi.2.2.1 (by omega)) rfl rfl) ?_
          rw [e9]
          refine g_goto (tgt := 804) (pc := 674) dL_law_674 (by decide) ?_
          refine G.drop 16 (G.drop 15 (G.drop 14 (G.drop 13 (G.drop 12 (G.drop 11 (G.drop 10 (G.drop 9 ?_)))))))
          simp only [List.set_cons_succ, List.set_cons_zero]
          exact G.bud (hT _ _ _ ⟨hK, hs, hbi, hnx⟩ hz) (by omega) (by omega)
        · skip
          have b0 : b2 (hasP σ p) = 1 := by rw [h1]; rfl
          have t0 := b2_f h3
          rw [if_neg h3]
          refine g_aload_n (i := 1) (pc := 620) dL_law_620 rfl rfl ?_
          refine g_iload (pc := 621) dL_law_621 rfl ?_
          refine g_iload (pc := 623) dL_law_623 rfl ?_
          refine g_iconst (pc := 625) dL_law_625 ?_
          refine g_irem (pc := 626) dL_law_626 (by omega) (by omega) ?_
          refine G.eqS (congrArg (fun z => vI z) ((show Int.tmod gg 4 = g by rw [Int.tmod_eq_emod_of_nonneg (by omega)]; omega))) ?_
          refine g_sxRII (pc := 627) okS_L_tear (by decide) l_L_139 dL_law_627 (by decide) (by decide) (Nat.le_of_ble_eq_true rfl) ⟨by omega, by omega⟩ (t_L_tearN hK hs (p := p) (g := g) (by omega) (by omega) h2 (by decide)) ?_
          simp only [Option.toList, List.cons_append, List.nil_append]
          refine g_iload (pc := 630) dL_law_630 rfl ?_
          refine g_z_eq (tgt := 640) (pc := 632) dL_law_632 (by omega) (by decide) (fun c632 => absurd c632 (by omega)) (fun c632 => ?_)
          refine g_iload (pc := 635) dL_law_635 rfl ?_
          refine g_goto (tgt := 641) (pc := 637) dL_law_637 (by decide) ?_
          refine g_c_eq (tgt := 646) (pc := 641) dL_law_641 (by omega) (by decide) (fun c641 => ?_) (fun c641 => absurd c641 (by omega))
          refine g_aload_n (i := 2) (pc := 646) dL_law_646 rfl rfl ?_
          refine g_iconst (pc := 647) dL_law_647 ?_
          refine g_dup2 (pc := 648) dL_law_648 (fun z h => nomatch h) (fun z h => nomatch h) ?_
          refine g_iald (pc := 649) dL_law_649 (c_79) (by omega) ?_
          refine G.eqS (v' := vI (s_te σ)) rfl ?_
          refine g_iload (pc := 650) dL_law_650 rfl ?_
          refine g_z_eq (tgt := 659) (pc := 652) dL_law_652 (by omega) (by decide) (fun c652 => ?_) (fun c652 => absurd c652 (by omega))
          refine g_iconst (pc := 659) dL_law_659 ?_
          refine g_iadd (pc := 660) dL_law_660 ?_
          refine g_iast (pc := 661) dL_law_661 c_79 (by omega) ?_
          refine G.eqw w_q ?_
          refine G.eqw (w' := cW κ (lawm (s_addte σ 0)) o) (cW_eq (qf_te σ 0) rfl rfl) ?_
          refine g_aload_n (i := 2) (pc := 662) dL_law_662 rfl rfl ?_
          refine g_iconst (pc := 663) dL_law_663 ?_
          refine g_dup2 (pc := 664) dL_law_664 (fun z h => nomatch h) (fun z h => nomatch h) ?_
          refine g_iald (pc := 665) dL_law_665 (c_79) (by omega) ?_
          refine G.eqS (v' := vI (bsum (s_bg σ) 16)) rfl ?_
          refine g_iconst (pc := 666) dL_law_666 ?_
          refine g_iload (pc := 667) dL_law_667 rfl ?_
          refine G.eqS (v' := vI ((gg.toNat : Nat) : Int)) (congrArg (fun z => vI z) (by omega)) ?_
          refine g_ishl (pc := 669) dL_law_669 ?_
          refine g_iconst (pc := 670) dL_law_670 ?_
          refine g_ixor (pc := 671) dL_law_671 ?_
          refine g_iand (pc := 672) dL_law_672 ?_
          refine g_iast (pc := 673) dL_law_673 c_79 (by omega) ?_
          refine G.eqw w_q ?_
          have e9 : s_setbg (s_addte σ 0) gg.toNat 0 = σ := te_no (by rw [hG]; exact bg_no hi h_p h_g h3)
          refine G.eqw (w' := cW κ (lawm (s_setbg (s_addte σ 0) gg.toNat 0)) o) (cW_eq (qf_sml2 (σ := s_addte σ 0) hi.2.2.1 (by omega)) rfl rfl) ?_
          rw [e9]
          refine g_goto (tgt := 804) (pc := 674) dL_law_674 (by decide) ?_
          refine G.drop 16 (G.drop 15 (G.drop 14 (G.drop 13 (G.drop 12 (G.drop 11 (G.drop 10 (G.drop 9 ?_)))))))
          simp only [List.set_cons_succ, List.set_cons_zero]
          exact G.bud (hT _ _ _ ⟨hK, hs, hbi, hnx⟩ hz) (by omega) (by omega)
        · skip
          have b0 : b2 (hasP σ p) = 1 := by rw [h1]; rfl
          have t0 := b2_t h3
          rw [if_pos h3]
          refine g_aload_n (i := 1) (pc := 620) dL_law_620 rfl rfl ?_
          refine g_iload (pc := 621) dL_law_621 rfl ?_
          refine g_iload (pc := 623) dL_law_623 rfl ?_
          refine g_iconst (pc := 625) dL_law_625 ?_
          refine g_irem (pc := 626) dL_law_626 (by omega) (by omega) ?_
          refine G.eqS (congrArg (fun z => vI z) ((show Int.tmod gg 4 = g by rw [Int.tmod_eq_emod_of_nonneg (by omega)]; omega))) ?_
          refine g_sxRII (pc := 627) okS_L_tear (by decide) l_L_139 dL_law_627 (by decide) (by decide) (Nat.le_of_ble_eq_true rfl) ⟨by omega, by omega⟩ (t_L_tearY hK hs (p := p) (g := g) (by omega) (by omega) h2) ?_
          simp only [Option.toList, List.cons_append, List.nil_append]
          generalize hκ9 : k_setms (k_rem κ) 0 (s_torn σ p g) = κ9
          have hti9 : TI κ9 (s_torn σ p g) := hκ9 ▸ ti_set hK (inv_torn hi h_p h_g) (bi_torn hbi p g) hnx
          refine g_iload (pc := 630) dL_law_630 rfl ?_
          refine g_z_eq (tgt := 640) (pc := 632) dL_law_632 (by omega) (by decide) (fun c632 => absurd c632 (by omega)) (fun c632 => ?_)
          refine g_iload (pc := 635) dL_law_635 rfl ?_
          refine g_goto (tgt := 641) (pc := 637) dL_law_637 (by decide) ?_
          refine g_c_eq (tgt := 646) (pc := 641) dL_law_641 (by omega) (by decide) (fun c641 => ?_) (fun c641 => absurd c641 (by omega))
          refine g_aload_n (i := 2) (pc := 646) dL_law_646 rfl rfl ?_
          refine g_iconst (pc := 647) dL_law_647 ?_
          refine g_dup2 (pc := 648) dL_law_648 (fun z h => nomatch h) (fun z h => nomatch h) ?_
          refine g_iald (pc := 649) dL_law_649 (c_79) (by omega) ?_
          refine G.eqS (v' := vI (s_te σ)) rfl ?_
          refine g_iload (pc := 650) dL_law_650 rfl ?_
          refine g_z_eq (tgt := 659) (pc := 652) dL_law_652 (by omega) (by decide) (fun c652 => absurd c652 (by omega)) (fun c652 => ?_)
          refine g_iconst (pc := 655) dL_law_655 ?_
          refine g_goto (tgt := 660) (pc := 656) dL_law_656 (by decide) ?_
          refine g_iadd (pc := 660) dL_law_660 ?_
          refine g_iast (pc := 661) dL_law_661 c_79 (by omega) ?_
          refine G.eqw w_q ?_
          refine G.eqw (w' := cW κ9 (lawm (s_addte σ 1)) o) (cW_eq (qf_te σ 1) rfl rfl) ?_
          refine g_aload_n (i := 2) (pc := 662) dL_law_662 rfl rfl ?_
          refine g_iconst (pc := 663) dL_law_663 ?_
          refine g_dup2 (pc := 664) dL_law_664 (fun z h => nomatch h) (fun z h => nomatch h) ?_
          refine g_iald (pc := 665) dL_law_665 (c_79) (by omega) ?_
          refine G.eqS (v' := vI (bsum (s_bg σ) 16)) rfl ?_
          refine g_iconst (pc := 666) dL_law_666 ?_
          refine g_iload (pc := 667) dL_law_667 rfl ?_
          refine G.eqS (v' := vI ((gg.toNat : Nat) : Int)) (congrArg (fun z => vI z) (by omega)) ?_
          refine g_ishl (pc := 669) dL_law_669 ?_
          refine g_iconst (pc := 670) dL_law_670 ?_
          refine g_ixor (pc := 671) dL_law_671 ?_
          refine g_iand (pc := 672) dL_law_672 ?_
          refine g_iast (pc := 673) dL_law_673 c_79 (by omega) ?_
          refine G.eqw w_q ?_
          refine G.eqw (w' := cW κ9 (lawm (s_torn σ p g)) o) (cW_eq ((qf_sml2 (σ := s_addte σ 1) hi.2.2.1 (by omega)).trans (by rw [hG]; rfl)) rfl rfl) ?_
          refine g_goto (tgt := 804) (pc := 674) dL_law_674 (by decide) ?_
          refine G.drop 16 (G.drop 15 (G.drop 14 (G.drop 13 (G.drop 12 (G.drop 11 (G.drop 10 (G.drop 9 ?_)))))))
          simp only [List.set_cons_succ, List.set_cons_zero]
          exact G.bud (hT _ _ _ hti9 hz) (by omega) (by omega)
      · skip
        refine g_z_eq (tgt := 616) (pc := 600) dL_law_600 (by omega) (by decide) (fun c600 => ?_) (fun c600 => ?_)
        · skip
          refine g_bipush (pc := 616) dL_law_616 (by decide) ?_
          refine G.eqS (congrArg (fun z => vI z) ?_) J
          first
          | (rw [if_pos (b2_1.mp (by omega))]; unfold ro; rw [if_pos (b2_1.mp (by omega))]; done)
          | (rw [if_neg (b2_0.mp (by omega))]; done)
        · skip
          refine g_iconst (pc := 603) dL_law_603 ?_
          refine g_iload (pc := 604) dL_law_604 rfl ?_
          refine g_imul (pc := 606) dL_law_606 ?_
          refine g_aload_n (i := 3) (pc := 607) dL_law_607 rfl rfl ?_
          refine g_sIR (pc := 608) okS_L_frame rfl l_L_46 dL_law_608 (by decide) (by decide) (Nat.le_of_ble_eq_true rfl) (t_L_frame (σ := σ) c_80 hi (by omega)) rfl ?_
          simp only [Option.toList, List.cons_append, List.nil_append]
          refine G.eqS (congrArg (fun z => vI z) (fo_k (σ := σ) (p := p) (v := 4 * g) (by omega) h_p (by omega))) ?_
          have bf := fo_rng hi p (4 * g)
          refine g_iconst (pc := 611) dL_law_611 ?_
          refine g_idiv (pc := 612) dL_law_612 (by omega) (by omega) ?_
          refine g_goto (tgt := 618) (pc := 613) dL_law_613 (by decide) ?_
          refine G.eqS (congrArg (fun z => vI z) ?_) J
          first
          | (rw [if_pos (b2_1.mp (by omega))]; unfold ro; rw [if_pos (b2_1.mp (by omega))]; done)
          | (rw [if_neg (b2_0.mp (by omega))]; done)
    · skip
      refine g_c_ne (tgt := 595) (pc := 588) dL_law_588 (by omega) (by decide) (fun c588 => ?_) (fun c588 => ?_)
      · skip
        refine g_iconst (pc := 595) dL_law_595 ?_
        refine G.eqS (congrArg (fun z => vI z) (show 0 = b2 (big σ p g) by omega)) ?_
        exact J
      · skip
        refine g_iconst (pc := 591) dL_law_591 ?_
        refine g_goto (tgt := 596) (pc := 592) dL_law_592 (by decide) ?_
        refine G.eqS (congrArg (fun z => vI z) (show 1 = b2 (big σ p g) by omega)) ?_
        exact J
  · skip
    have wn9 := wn_rng σ p g
    rcases ma_cases σ p h_g with ⟨h1, h2⟩ | ⟨h1, h3, h2⟩ | ⟨h1, h3, h2⟩
    · skip
      have b0 : b2 (hasP σ p) = 0 := by rw [h1]; rfl
      refine g_aload_n (i := 1) (pc := 546) dL_law_546 rfl rfl ?_
      refine g_iload (pc := 547) dL_law_547 rfl ?_
      refine g_iload (pc := 549) dL_law_549 rfl ?_
      refine g_iconst (pc := 551) dL_law_551 ?_
      refine g_irem (pc := 552) dL_law_552 (by omega) (by omega) ?_
      refine G.eqS (congrArg (fun z => vI z) ((show Int.tmod gg 4 = g by rw [Int.tmod_eq_emod_of_nonneg (by omega)]; omega))) ?_
      refine g_sxRII (pc := 553) okS_L_marry (by decide) l_L_136 dL_law_553 (by decide) (by decide) (Nat.le_of_ble_eq_true rfl) ⟨by omega, by omega⟩ (t_L_marryN hK hs (p := p) (g := g) (by omega) (by omega) h2 (by decide)) ?_
      simp only [Option.toList, List.cons_append, List.nil_append]
      refine g_iload (pc := 556) dL_law_556 rfl ?_
      refine g_z_eq (tgt := 573) (pc := 558) dL_law_558 (by omega) (by decide) (fun c558 => ?_) (fun c558 => absurd c558 (by omega))
      refine g_iconst (pc := 573) dL_law_573 ?_
      refine g_c_eq (tgt := 804) (pc := 574) dL_law_574 (by omega) (by decide) (fun c574 => ?_) (fun c574 => absurd c574 (by omega))
      refine G.drop 16 (G.drop 15 (G.drop 14 (G.drop 13 (G.drop 12 (G.drop 11 (G.drop 10 (G.drop 9 ?_)))))))
      simp only [List.set_cons_succ, List.set_cons_zero]
      exact G.bud (hT _ _ _ ⟨hK, hs, hbi, hnx⟩ hz) (by omega) (by omega)
    · skip
      have b0 : b2 (hasP σ p) = 1 := by rw [h1]; rfl
      refine g_aload_n (i := 1) (pc := 546) dL_law_546 rfl rfl ?_
      refine g_iload (pc := 547) dL_law_547 rfl ?_
      refine g_iload (pc := 549) dL_law_549 rfl ?_
      refine g_iconst (pc := 551) dL_law_551 ?_
      refine g_irem (pc := 552) dL_law_552 (by omega) (by omega) ?_
      refine G.eqS (congrArg (fun z => vI z) ((show Int.tmod gg 4 = g by rw [Int.tmod_eq_emod_of_nonneg (by omega)]; omega))) ?_
      refine g_sxRII (pc := 553) okS_L_marry (by decide) l_L_136 dL_law_553 (by decide) (by decide) (Nat.le_of_ble_eq_true rfl) ⟨by omega, by omega⟩ (t_L_marryN hK hs (p := p) (g := g) (by omega) (by omega) h2 (by decide)) ?_
      simp only [Option.toList, List.cons_append, List.nil_append]
      refine g_iload (pc := 556) dL_law_556 rfl ?_
      refine g_z_eq (tgt := 573) (pc := 558) dL_law_558 (by omega) (by decide) (fun c558 => absurd c558 (by omega)) (fun c558 => ?_)
      refine g_iload (pc := 561) dL_law_561 rfl ?_
      refine g_aload_n (i := 2) (pc := 563) dL_law_563 rfl rfl ?_
      refine g_aload_n (i := 3) (pc := 564) dL_law_564 rfl rfl ?_
      refine g_aload (pc := 565) dL_law_565 rfl ?_
      refine G.eqw cL_self ?_
      refine g_sIRRR (pc := 567) okS_L_weds rfl l_L_97 dL_law_567 (by decide) (by decide) (Nat.le_of_ble_eq_true rfl) (t_L_weds (a := 79) (σ := σ) (p := p) (g := g) cL_ok hi hG h_p h_g h1) (by simp only [l_len]) ?_
      rw [if_neg h3, if_neg h3]
      simp only [Option.toList, List.cons_append, List.nil_append]
      refine G.eqw cL_set ?_
      refine g_goto (tgt := 574) (pc := 570) dL_law_570 (by decide) ?_
      refine g_c_eq (tgt := 804) (pc := 574) dL_law_574 (by omega) (by decide) (fun c574 => ?_) (fun c574 => absurd c574 (by omega))
      refine G.drop 16 (G.drop 15 (G.drop 14 (G.drop 13 (G.drop 12 (G.drop 11 (G.drop 10 (G.drop 9 ?_)))))))
      simp only [List.set_cons_succ, List.set_cons_zero]
      exact G.bud (hT _ _ _ ⟨hK, hs, hbi, hnx⟩ hz) (by omega) (by omega)
    · skip
      have b0 : b2 (hasP σ p) = 1 := by rw [h1]; rfl
      refine g_aload_n (i := 1) (pc := 546) dL_law_546 rfl rfl ?_
      refine g_iload (pc := 547) dL_law_547 rfl ?_
      refine g_iload (pc := 549) dL_law_549 rfl ?_
      refine g_iconst (pc := 551) dL_law_551 ?_
      refine g_irem (pc := 552) dL_law_552 (by omega) (by omega) ?_
      refine G.eqS (congrArg (fun z => vI z) ((show Int.tmod gg 4 = g by rw [Int.tmod_eq_emod_of_nonneg (by omega)]; omega))) ?_
      refine g_sxRII (pc := 553) okS_L_marry (by decide) l_L_136 dL_law_553 (by decide) (by decide) (Nat.le_of_ble_eq_true rfl) ⟨by omega, by omega⟩ (t_L_marryY hK hs (p := p) (g := g) (by omega) (by omega) h2) ?_
      simp only [Option.toList, List.cons_append, List.nil_append]
      have hex9 : 0 ≤ p ∧ p < 4 ∧ s_ex σ p.toNat = 1 := ex_of h1
      generalize hκ9 : k_setms (k_rem κ) 0 (s_mar σ p g) = κ9
      have hti9 : TI κ9 (s_mar σ p g) := hκ9 ▸ ti_set hK (inv_mar hi hex9 h_g h3) (bi_mar hbi h_p h_g h3) (by rw [nex_of (mar_ex σ p g)]; exact hnx)
      have iv9 : 0 ≤ (if ip σ p g = true then (0 : Int) else 4) ∧ (if ip σ p g = true then (0 : Int) else 4) ≤ 4 := by split <;> omega
      refine g_iload (pc := 556) dL_law_556 rfl ?_
      refine g_z_eq (tgt := 573) (pc := 558) dL_law_558 (by omega) (by decide) (fun c558 => absurd c558 (by omega)) (fun c558 => ?_)
      refine g_iload (pc := 561) dL_law_561 rfl ?_
      refine g_aload_n (i := 2) (pc := 563) dL_law_563 rfl rfl ?_
      refine g_aload_n (i := 3) (pc := 564) dL_law_564 rfl rfl ?_
      refine g_aload (pc := 565) dL_law_565 rfl ?_
      refine G.eqw cL_self ?_
      refine g_sIRRR (pc := 567) okS_L_weds rfl l_L_97 dL_law_567 (by decide) (by decide) (Nat.le_of_ble_eq_true rfl) (t_L_weds (a := 79) (σ := σ) (p := p) (g := g) cL_ok hi hG h_p h_g h1) (by simp only [l_len]) ?_
      rw [if_pos h3, if_pos h3]
      simp only [Option.toList, List.cons_append, List.nil_append]
      refine G.eqw cL_set ?_
      refine g_goto (tgt := 574) (pc := 570) dL_law_570 (by decide) ?_
      refine g_c_eq (tgt := 804) (pc := 574) dL_law_574 (by omega) (by decide) (fun c574 => ?_) (fun c574 => absurd c574 (by omega))
      refine G.drop 16 (G.drop 15 (G.drop 14 (G.drop 13 (G.drop 12 (G.drop 11 (G.drop 10 (G.drop 9 ?_)))))))
      simp only [List.set_cons_succ, List.set_cons_zero]
      exact G.bud (hT _ _ _ hti9 hz) (by omega) (by omega)
set_option maxRecDepth 20000 in
set_option maxHeartbeats 600000 in
theorem lk_6 {n : Nat} {f : Nat → Int} {t : Nat} (ht : t < 20) {κ : KT} {σ : SG} {o : DT} (hK : KInv κ) (hs : k_ms κ 0 = σ) (hbi : BI σ) (hnx : 0 < nex σ) (hz : ZI o) {x kd p gg g : Int} (h_p : 0 ≤ p ∧ p < 4) (hG : gg = 4 * p + g) (h_g : 0 ≤ g ∧ g < 4) (hT : TL n f t) : G M_L_law (some (n, f)) false false 684 [some (vR SCR), some (vR 0), some (vR 79), some (vR 80), some (vR 81), some (vR 82), some (vR 83), some (vR 84), some (vI (t : Int)), some (vI (x)), some (vI (kd)), some (vI (p)), some (vI (gg)), some (vI (b2 (hasP σ p))), none, none, none] [] (cW κ (lawm σ) o) (5002 + 5100 * (19 - t) + 8) (6 * (5002 + 5100 * (19 - t) + 8)) LQ := by
  have hi : Inv σ := hs ▸ hK.2.2.1 0
  refine g_iconst (pc := 684) dL_law_684 ?_
  refine g_iload (pc := 685) dL_law_685 rfl ?_
  refine g_bipush (pc := 687) dL_law_687 (by decide) ?_
  refine g_ishr (pc := 689) dL_law_689 ?_
  refine g_bipush (pc := 690) dL_law_690 (by decide) ?_
  refine g_sII (pc := 692) okS_L_low rfl l_L_123 dL_law_692 (by decide) (by decide) (Nat.le_of_ble_eq_true rfl) (t_L_low (by omega)) rfl ?_
  simp only [Option.toList, List.cons_append, List.nil_append]
  have bb := lowv_rng ((b_shr x 7)) (n := 32) (by omega)
  refine g_iadd (pc := 695) dL_law_695 ?_
  refine g_istore (pc := 696) dL_law_696 (by decide) rfl ?_
  simp only [List.set_cons_succ, List.set_cons_zero]
  refine g_aload_n (i := 1) (pc := 698) dL_law_698 rfl rfl ?_
  refine g_iload (pc := 699) dL_law_699 rfl ?_
  have hxp : xc_pr (1 + lowv (b_shr x 7) 32) = 0 := by unfold xc_pr; rw [if_pos (by omega)]
  refine g_callV (pc := 701) (as := [vI (1 + lowv (b_shr x 7) 32)]) (bc' := 2) (bs' := 12) okV_X3_press rfl l_L_141 dL_law_701 c_0 hc_3 rfl (Nat.le_of_ble_eq_true rfl) (by decide) (Nat.le_of_ble_eq_true rfl) ⟨by omega, by omega⟩ (t_X3_press hK (by omega)) (fun h => nomatch h) (fun r w' h => ?_) (fun E w' h => by rcases xR_e h.1 with ⟨q, -⟩ | ⟨q, -⟩ | ⟨q, -⟩ <;> omega)
  obtain ⟨hr9, rfl⟩ := h
  obtain ⟨-, rfl⟩ := xR_i hr9
  simp only [Option.toList, List.cons_append, List.nil_append]
  rw [if_pos hxp, hs]
  generalize hκ9 : k_setms (k_rem κ) 0 (s_pre σ (1 + lowv (b_shr x 7) 32)) = κ9
  have hti9 : TI κ9 (s_pre σ (1 + lowv (b_shr x 7) 32)) := hκ9 ▸ ti_set hK (inv_itp hi (1 + lowv (b_shr x 7) 32) 80) (bi_pre hbi (1 + lowv (b_shr x 7) 32)) (by show 0 < nex (itp σ (1 + lowv (b_shr x 7) 32) 80); rw [nex_of (itp_ex σ (1 + lowv (b_shr x 7) 32) 80)]; exact hnx)
  have nf9 := nff_rng (s_pre σ (1 + lowv (b_shr x 7) 32))
  refine g_iload (pc := 704) dL_law_704 rfl ?_
  refine g_aload_n (i := 2) (pc := 706) dL_law_706 rfl rfl ?_
  refine g_aload_n (i := 3) (pc := 707) dL_law_707 rfl rfl ?_
  refine g_aload (pc := 708) dL_law_708 rfl ?_
  refine G.eqw cL_self ?_
  refine g_sIRRR (pc := 710) okS_L_press rfl l_L_108 dL_law_710 (by decide) (by decide) (Nat.le_of_ble_eq_true rfl) (t_L_press (a := 79) (σ := σ) cL_ok hi hbi (by omega)) (by simp only [l_len]) ?_
  simp only [Option.toList, List.cons_append, List.nil_append]
  refine G.eqw cL_set ?_
  refine g_c_eq (tgt := 718) (pc := 713) dL_law_713 (by omega) (by decide) (fun c713 => ?_) (fun c713 => absurd c713 (by omega))
  refine g_goto (tgt := 804) (pc := 718) dL_law_718 (by decide) ?_
  refine G.drop 16 (G.drop 15 (G.drop 14 (G.drop 13 (G.drop 12 (G.drop 11 (G.drop 10 (G.drop 9 ?_)))))))
  simp only [List.set_cons_succ, List.set_cons_zero]
  exact G.bud (hT _ _ _ hti9 hz) (by omega) (by omega)
set_option maxRecDepth 20000 in
set_option maxHeartbeats 600000 in
theorem lk_7 {n : Nat} {f : Nat → Int} {t : Nat} (ht : t < 20) {κ : KT} {σ : SG} {o : DT} (hK : KInv κ) (hs : k_ms κ 0 = σ) (hbi : BI σ) (hnx : 0 < nex σ) (hz : ZI o) {x kd p gg g : Int} (h_p : 0 ≤ p ∧ p < 4) (hG : gg = 4 * p + g) (h_g : 0 ≤ g ∧ g < 4) (hT : TL n f t) : G M_L_law (some (n, f)) false false 721 [some (vR SCR), some (vR 0), some (vR 79), some (vR 80), some (vR 81), some (vR 82), some (vR 83), some (vR 84), some (vI (t : Int)), some (vI (x)), some (vI (kd)), some (vI (p)), some (vI (gg)), some (vI (b2 (hasP σ p))), none, none, none] [] (cW κ (lawm σ) o) (5002 + 5100 * (19 - t) + 8) (6 * (5002 + 5100 * (19 - t) + 8)) LQ := by
  have hi : Inv σ := hs ▸ hK.2.2.1 0
  refine g_aload_n (i := 2) (pc := 721) dL_law_721 rfl rfl ?_
  refine g_bipush (pc := 722) dL_law_722 (by decide) ?_
  refine g_iload (pc := 724) dL_law_724 rfl ?_
  refine g_bipush (pc := 726) dL_law_726 (by decide) ?_
  refine g_ishr (pc := 728) dL_law_728 ?_
  refine g_iconst (pc := 729) dL_law_729 ?_
  refine g_sII (pc := 730) okS_L_low rfl l_L_123 dL_law_730 (by decide) (by decide) (Nat.le_of_ble_eq_true rfl) (t_L_low (by omega)) rfl ?_
  simp only [Option.toList, List.cons_append, List.nil_append]
  have bb := lowv_rng ((b_shr x 7)) (n := 3) (by omega)
  refine G.joinA1 (T := 741) (lo := 0) (hi := 2) (fun v9 hv9 => ?_) (fun J => ?_)
  · skip
    refine g_iast (pc := 741) dL_law_741 c_79 (by omega) ?_
    refine G.eqw w_q ?_
    refine G.eqw (w' := cW κ (lawm (s_setea σ v9)) o) (cW_eq (qf_ea σ v9) rfl rfl) ?_
    refine g_iconst (pc := 742) dL_law_742 ?_
    refine g_istore (pc := 743) dL_law_743 (by decide) rfl ?_
    simp only [List.set_cons_succ, List.set_cons_zero]
    refine g_iconst (pc := 745) dL_law_745 ?_
    refine g_istore (pc := 746) dL_law_746 (by decide) rfl ?_
    simp only [List.set_cons_succ, List.set_cons_zero]
    refine lp_up (P := fun k => G M_L_law (some (n, f)) false false 748 [some (vR SCR), some (vR 0), some (vR 79), some (vR 80), some (vR 81), some (vR 82), some (vR 83), some (vR 84), some (vI (t : Int)), some (vI (x)), some (vI (kd)), some (vI (p)), some (vI (gg)), some (vI (b2 (hasP σ p))), some (vI (ct (fun r => rf σ r) (k))), some (vI ((k : Int))), none] [] (cW κ (lawm (s_setea σ v9)) o) (5002 + 5100 * (19 - t) + 8) (6 * (5002 + 5100 * (19 - t) + 8)) LQ) 8 ?_ ?_ 0 (Nat.zero_le _)
    · refine G.eqL (L' := [some (vR SCR), some (vR 0), some (vR 79), some (vR 80), some (vR 81), some (vR 82), some (vR 83), some (vR 84), some (vI (t : Int)), some (vI (x)), some (vI (kd)), some (vI (p)), some (vI (gg)), some (vI (b2 (hasP σ p))), some (vI (nfr σ)), some (vI (((8 : Nat) : Int))), none]) rfl ?_
      refine g_iload (pc := 748) dL_law_748 rfl ?_
      refine g_bipush (pc := 750) dL_law_750 (by decide) ?_
      refine g_c_ge (tgt := 780) (pc := 752) dL_law_752 (by omega) (by decide) (fun c752 => ?_) (fun c752 => absurd c752 (by omega))
      refine g_aload_n (i := 1) (pc := 780) dL_law_780 rfl rfl ?_
      refine g_aload_n (i := 2) (pc := 781) dL_law_781 rfl rfl ?_
      refine g_bipush (pc := 782) dL_law_782 (by decide) ?_
      refine g_iald (pc := 784) dL_law_784 c_79 (by omega) ?_
      refine G.eqS (v' := vI v9) rfl ?_
      refine g_iconst (pc := 785) dL_law_785 ?_
      refine G.join2 (T := 794) (v := v9) ?_ (fun J => ?_)
      · skip
        refine g_v1 (pc := 794) okV_X3_setEager rfl l_L_143 dL_law_794 c_0 hc_3 (by decide) (by decide) (Nat.le_of_ble_eq_true rfl) (t_X3_setEager hK (by omega)) (by rw [c_len, c_len]) ?_
        simp only [Option.toList, List.cons_append, List.nil_append]
        rw [hs]
        generalize hκ9 : k_setms (k_rem κ) 0 (s_setea σ v9) = κ9
        have hti9 : TI κ9 (s_setea σ v9) := hκ9 ▸ ti_set hK (inv_ea hi (by omega)) hbi hnx
        have nr9 := nfr_rng σ
        refine g_iload (pc := 797) dL_law_797 rfl ?_
        refine g_c_eq (tgt := 804) (pc := 799) dL_law_799 (by omega) (by decide) (fun c799 => ?_) (fun c799 => absurd c799 (by omega))
        refine G.drop 16 (G.drop 15 (G.drop 14 (G.drop 13 (G.drop 12 (G.drop 11 (G.drop 10 (G.drop 9 ?_)))))))
        simp only [List.set_cons_succ, List.set_cons_zero]
        exact G.bud (hT _ _ _ hti9 hz) (by omega) (by omega)
      · skip
        refine g_c_ne (tgt := 793) (pc := 786) dL_law_786 (by omega) (by decide) (fun c786 => ?_) (fun c786 => ?_)
        · skip
          refine g_iconst (pc := 793) dL_law_793 ?_
          refine G.eqS (congrArg (fun z => vI z) (show 0 = v9 by omega)) ?_
          exact J
        · skip
          refine g_iconst (pc := 789) dL_law_789 ?_
          refine g_goto (tgt := 794) (pc := 790) dL_law_790 (by decide) ?_
          refine G.eqS (congrArg (fun z => vI z) (show 1 = v9 by omega)) ?_
          exact J
    · intro k hk ih
      show G _ _ _ _ _ _ _ _ _ _ _
      refine g_iload (pc := 748) dL_law_748 rfl ?_
      refine g_bipush (pc := 750) dL_law_750 (by decide) ?_
      refine g_c_ge (tgt := 780) (pc := 752) dL_law_752 (by omega) (by decide) (fun c752 => absurd c752 (by omega)) (fun c752 => ?_)
      refine g_iload (pc := 755) dL_law_755 rfl ?_
      refine g_iload (pc := 757) dL_law_757 rfl ?_
      refine g_aload_n (i := 3) (pc := 759) dL_law_759 rfl rfl ?_
      refine g_sIR (pc := 760) okS_L_freeRun rfl l_L_36 dL_law_760 (by decide) (by decide) (Nat.le_of_ble_eq_true rfl) (t_L_freeRun (σ := σ) c_80 hi (by omega)) rfl ?_
      simp only [Option.toList, List.cons_append, List.nil_append]
      have bb := b2_rng (rf σ ((k : Int)))
      refine G.join1 (T := 771) (v := b2 (rf σ (k : Int))) ?_ (fun J => ?_)
      · skip
        refine g_iadd (pc := 771) dL_law_771 ?_
        refine g_istore (pc := 772) dL_law_772 (by decide) rfl ?_
        simp only [List.set_cons_succ, List.set_cons_zero]
        refine g_iinc (pc := 774) dL_law_774 rfl (by decide) rfl ?_
        simp only [List.set_cons_succ, List.set_cons_zero]
        refine g_goto (tgt := 748) (pc := 777) dL_law_777 (by decide) ?_
        refine G.eqL (congrArg (fun z => [some (vR SCR), some (vR 0), some (vR 79), some (vR 80), some (vR 81), some (vR 82), some (vR 83), some (vR 84), some (vI (t : Int)), some (vI (x)), some (vI (kd)), some (vI (p)), some (vI (gg)), some (vI (b2 (hasP σ p))), some (vI z), some (vI ((k : Int) + 1)), none]) (ct_b2 (fun r => rf σ r) k).symm) ih
      · skip
        refine g_z_eq (tgt := 770) (pc := 763) dL_law_763 (by omega) (by decide) (fun c763 => ?_) (fun c763 => ?_)
        · skip
          refine g_iconst (pc := 770) dL_law_770 ?_
          refine G.eqS (congrArg (fun z => vI z) (show 0 = b2 (rf σ (k : Int)) by omega)) ?_
          exact J
        · skip
          refine g_iconst (pc := 766) dL_law_766 ?_
          refine g_goto (tgt := 771) (pc := 767) dL_law_767 (by decide) ?_
          refine G.eqS (congrArg (fun z => vI z) (show 1 = b2 (rf σ (k : Int)) by omega)) ?_
          exact J
  · skip
    refine g_z_le (tgt := 740) (pc := 733) dL_law_733 (by omega) (by decide) (fun c733 => ?_) (fun c733 => ?_)
    · skip
      refine g_iconst (pc := 740) dL_law_740 ?_
      exact J _ (by omega)
    · skip
      refine g_iconst (pc := 736) dL_law_736 ?_
      refine g_goto (tgt := 741) (pc := 737) dL_law_737 (by decide) ?_
      exact J _ (by omega)
end LA8
