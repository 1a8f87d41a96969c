/-! THE LAW TRIES (printed by wip/p28/could.py, but for the first rows) -/
section CO9
theorem ct_pre {p : Nat → Bool} {k : Nat} : ∀ {n : Nat}, k ≤ n → (∀ i, i < k → p i = true) → (∀ i, k ≤ i → i < n → ¬ p i = true) → ct p n = k
  | 0, h, _, _ => by rw [show k = 0 by omega]; rfl
  | n + 1, h, h1, h2 => by
    rcases Nat.lt_or_ge n k with q | q
    · rw [ct_yes (h1 n q), ct_pre (k := n) (Nat.le_refl n) (fun i hi => h1 i (by omega)) (fun i hi hj => by omega)]
      omega
    · rw [ct_no (h2 n q (by omega))]
      exact ct_pre q h1 (fun i hi hj => h2 i hi (by omega))
theorem itm_fix {σ : SG} {k : Nat} (h : nxt (itm σ k) = -1) : ∀ d : Nat, itm σ (k + d) = itm σ k
  | 0 => rfl
  | d + 1 => by
    have e : itm σ (k + (d + 1)) = dn (itm σ (k + d)) := by rw [← Nat.add_assoc, itm]
    rw [e, itm_fix h d]
    unfold dn
    rw [if_neg (fun z => z h)]
theorem cmv_ct (σ : SG) : ct (fun i => decide (nxt (itm σ i) ≠ -1)) 17 = cmv σ := by
  have key : ∀ k : Nat, k ≤ 16 → nxt (itm σ k) = -1 → (∀ j : Nat, j < k → nxt (itm σ j) ≠ -1) → ct (fun i => decide (nxt (itm σ i) ≠ -1)) 17 = cmv σ := by
    intro k hk h1 h2
    rw [cmv_at hk h1 h2]
    refine ct_pre (by omega) (fun i hi => decide_eq_true (h2 i hi)) (fun i hi hj z => of_decide_eq_true z ?_)
    have e := itm_fix h1 (i - k)
    rw [show k + (i - k) = i by omega] at e
    rw [e]; exact h1
  rcases ff_cases (fun k => decide (nxt (itm σ k) = -1)) 16 with ⟨-, h2⟩ | ⟨k, -, h2, h3, h4⟩
  · have h5 : ∀ j : Nat, j < 16 → nxt (itm σ j) ≠ -1 := fun j hj z => h2 j hj (decide_eq_true z)
    refine key 16 (Nat.le_refl _) ?_ h5
    rcases Int.decEq (nxt (itm σ 16)) (-1) with z | z
    · exfalso
      have h6 := nbg_itm (σ := σ) 17 (fun j hj => by
        rcases (by omega : j < 16 ∨ j = 16) with q | q
        · exact h5 j q
        · rw [q]; exact z)
      have h7 := nbg_rng σ
      have h8 := nbg_rng (itm σ 17)
      omega
    · exact z
  · exact key k (by omega) (of_decide_eq_true h3) (fun j hj z => h4 j hj (decide_eq_true z))
def mp0 (τ : SG) : Nat → Bool := fun k => hasP τ ((k / 4 : Nat) : Int) && decide (wn τ ((k / 4 : Nat) : Int) ((k % 4 : Nat) : Int) = 0) && !(ip τ ((k / 4 : Nat) : Int) ((k % 4 : Nat) : Int))
def mp1 (τ : SG) : Nat → Bool := fun k => hasP τ ((k / 4 : Nat) : Int) && decide (wn τ ((k / 4 : Nat) : Int) ((k % 4 : Nat) : Int) = 0) && ip τ ((k / 4 : Nat) : Int) ((k % 4 : Nat) : Int)
theorem mp0_0 (τ : SG) : fx (mp0 τ) 16 0 = mi0 τ := fx_0 _ _
theorem mp1_0 (τ : SG) : fx (mp1 τ) 16 0 = mi1 τ := fx_0 _ _
theorem mp0_iff {τ : SG} {k : Nat} : mp0 τ k = true ↔ hasP τ ((k / 4 : Nat) : Int) = true ∧ wn τ ((k / 4 : Nat) : Int) ((k % 4 : Nat) : Int) = 0 ∧ ¬ ip τ ((k / 4 : Nat) : Int) ((k % 4 : Nat) : Int) = true := by
  unfold mp0
  rw [Bool.and_eq_true, Bool.and_eq_true, decide_eq_true_eq, Bool.not_eq_true', ← Bool.not_eq_true]
  exact ⟨fun ⟨⟨a, b⟩, c⟩ => ⟨a, b, c⟩, fun ⟨a, b, c⟩ => ⟨⟨a, b⟩, c⟩⟩
theorem mp1_iff {τ : SG} {k : Nat} : mp1 τ k = true ↔ hasP τ ((k / 4 : Nat) : Int) = true ∧ wn τ ((k / 4 : Nat) : Int) ((k % 4 : Nat) : Int) = 0 ∧ ip τ ((k / 4 : Nat) : Int) ((k % 4 : Nat) : Int) = true := by
  unfold mp1
  rw [Bool.and_eq_true, Bool.and_eq_true, decide_eq_true_eq]
  exact ⟨fun ⟨⟨a, b⟩, c⟩ => ⟨a, b, c⟩, fun ⟨a, b, c⟩ => ⟨⟨a, b⟩, c⟩⟩
/-- the first that may marry, so far -/
def cf (τ : SG) (k : Nat) : Int := if fx (mp1 τ) 16 k = -1 then mi0 τ else fx (mp1 τ) 16 k
theorem cf_16 (τ : SG) : cf τ 16 = mi0 τ := by unfold cf; rw [fx_n, if_pos rfl]
theorem cf_0 (τ : SG) : cf τ 0 = nxt τ := by
  unfold cf nxt
  rw [mp1_0]
theorem cf_s {τ : SG} {k : Nat} (hk : k < 16) : cf τ k = if mp1 τ k = true then (k : Int) else cf τ (k + 1) := by
  unfold cf
  rw [fx_s hk]
  by_cases q : mp1 τ k = true
  · rw [if_pos q, if_pos q, if_neg (by omega)]
  · rw [if_neg q, if_neg q]
theorem cf_rng (τ : SG) (k : Nat) : -1 ≤ cf τ k ∧ cf τ k < 16 := by
  have h1 := fx_rng (mp1 τ) 16 k
  have h2 := mi0_rng τ
  unfold cf
  split <;> omega
theorem cf_pl {τ : SG} {k : Nat} (hk : k < 16) (h0 : 0 ≤ cf τ (k + 1)) (h : ip τ (cf τ (k + 1) / 4) (cf τ (k + 1) % 4) = true) : (k : Int) < cf τ (k + 1) := by
  by_cases q : fx (mp1 τ) 16 (k + 1) = -1
  · exfalso
    have e : cf τ (k + 1) = mi0 τ := by unfold cf; rw [if_pos q]
    rw [e] at h h0
    rcases ff_cases (mp0 τ) 16 with ⟨h1, -⟩ | ⟨j, h1, h2, h3, -⟩
    · have : mi0 τ = -1 := h1
      omega
    · have e2 : mi0 τ = j := h1
      have h4 := (mp0_iff.mp h3).2.2
      rw [e2] at h
      exact h4 h
  · have e : cf τ (k + 1) = fx (mp1 τ) 16 (k + 1) := by unfold cf; rw [if_neg q]
    rw [e]
    rcases ff_cases (fun i => decide (k + 1 ≤ i) && mp1 τ i) 16 with ⟨h1, -⟩ | ⟨j, h1, h2, h3, -⟩
    · exact absurd h1 q
    · have e2 : fx (mp1 τ) 16 (k + 1) = j := h1
      rw [Bool.and_eq_true, decide_eq_true_eq] at h3
      rw [e2]
      omega
def PCo (σ : SG) : (Option MV) ⊕ String → List MC → Prop := fun r w' => r = .inl (some (vI 1)) ∧ ∃ (κ' : KT) (o' : DT), KInv κ' ∧ k_ms κ' 0 = σ ∧ ZI o' ∧ w' = cW κ' (lawm σ) o'
theorem cmv_rng (σ : SG) : 0 ≤ cmv σ ∧ cmv σ ≤ 16 := by
  have h := ff_rng (fun k => decide (nxt (itm σ k) = -1)) 16
  unfold cmv
  split <;> omega
set_option maxRecDepth 20000 in
set_option maxHeartbeats 600000 in
theorem t_L_could {κ : KT} {o : DT} {σ : SG} (hK : KInv κ) (hs : k_ms κ 0 = σ) (hbi : BI σ) (hz : ZI o) {p : Int} (h_P : hasP σ p = true) : GM M_L_could false [vR 0, vI p, vR 79, vR 80, vR 81, vR 82, vR 83, vR 84] (cW κ (lawm σ) o) 2 12 (PCo σ) := by
  have hi : Inv σ := hs ▸ hK.2.2.1 0
  have h_e := ex_of h_P
  show G _ none _ _ 0 [some (vR 0), some (vI p), some (vR 79), some (vR 80), some (vR 81), some (vR 82), some (vR 83), some (vR 84), none, none, none, none] [] _ _ _ _
  refine g_aload_n (i := 2) (pc := 0) dL_could_0 rfl rfl ?_
  refine g_aload_n (i := 3) (pc := 1) dL_could_1 rfl rfl ?_
  refine g_aload (pc := 2) dL_could_2 rfl ?_
  refine g_aload (pc := 4) dL_could_4 rfl ?_
  refine g_aload (pc := 6) dL_could_6 rfl ?_
  refine g_aload (pc := 8) dL_could_8 rfl ?_
  refine g_sR6 (pc := 10) okS_L_copy rfl l_L_93 dL_could_10 (by decide) (by decide) (Nat.le_of_ble_eq_true rfl) (t_L_copy (zi_lawm hi) hz) (by rw [c_len, c_len]) ?_
  simp only [Option.toList, List.cons_append, List.nil_append]
  refine g_iconst (pc := 13) dL_could_13 ?_
  refine g_istore (pc := 14) dL_could_14 (by decide) rfl ?_
  simp only [List.set_cons_succ, List.set_cons_zero]
  refine g_iconst (pc := 16) dL_could_16 ?_
  refine g_istore (pc := 17) dL_could_17 (by decide) rfl ?_
  simp only [List.set_cons_succ, List.set_cons_zero]
  refine G.eqw (w' := cW κ (lawm σ) (lawm (itm σ 0))) rfl ?_
  refine lp_up (P := fun j => G M_L_could none false false 19 [some (vR 0), some (vI p), some (vR 79), some (vR 80), some (vR 81), some (vR 82), some (vR 83), some (vR 84), some (vI (ct (fun i => decide (nxt (itm σ i) ≠ -1)) (j))), some (vI ((j : Int))), none, none] [] (cW κ (lawm σ) (lawm (itm σ j))) 2 12 (PCo σ)) 17 ?_ ?_ 0 (Nat.zero_le _)
  · have hz1 := zi_lawm (inv_itm hi 17)
    refine G.eqL (L' := [some (vR 0), some (vI p), some (vR 79), some (vR 80), some (vR 81), some (vR 82), some (vR 83), some (vR 84), some (vI (cmv σ)), some (vI (((17 : Nat) : Int))), none, none]) (congrArg (fun z => [some (vR 0), some (vI p), some (vR 79), some (vR 80), some (vR 81), some (vR 82), some (vR 83), some (vR 84), some (vI z), some (vI (((17 : Nat) : Int))), none, none]) (cmv_ct σ)) ?_
    have cr9 := cmv_rng σ
    refine g_iload (pc := 19) dL_could_19 rfl ?_
    refine g_bipush (pc := 21) dL_could_21 (by decide) ?_
    refine g_c_ge (tgt := 202) (pc := 23) dL_could_23 (by omega) (by decide) (fun c23 => ?_) (fun c23 => absurd c23 (by omega))
    refine g_aload_n (i := 0) (pc := 202) dL_could_202 rfl rfl ?_
    skip
    refine g_callV (pc := 203) (as := []) (bc' := 0) (bs' := 0) okV_X3_marriages rfl l_L_101 dL_could_203 c_0 hc_3 rfl (Nat.le_of_ble_eq_true rfl) (by decide) (Nat.le_of_ble_eq_true rfl) ⟨by decide, by decide⟩ (t_X3_marriages hK) (fun h => nomatch h) (fun r w' h => ?_) (fun E w' h => nomatch h.1)
    obtain ⟨hr9, τ1, hτ1, rfl⟩ := h
    obtain rfl := Sum.inl.inj hr9
    simp only [Option.toList, List.cons_append, List.nil_append]
    have hK1 := kinv_ms (i := 1) hK hτ1
    have hs1 : k_ms (k_setms κ 1 τ1) 0 = σ := (ms_ne κ τ1 (by decide)).trans hs
    generalize k_setms κ 1 τ1 = κ1 at hK1 hs1 ⊢
    refine G.eqS (congrArg (fun z => vI z) (congrArg cmv hs)) ?_
    refine g_iload (pc := 206) dL_could_206 rfl ?_
    refine g_c_eq (tgt := 213) (pc := 208) dL_could_208 (by omega) (by decide) (fun c208 => ?_) (fun c208 => absurd c208 (by omega))
    refine g_aload_n (i := 2) (pc := 213) dL_could_213 rfl rfl ?_
    refine g_aload_n (i := 3) (pc := 214) dL_could_214 rfl rfl ?_
    refine g_aload (pc := 215) dL_could_215 rfl ?_
    refine g_aload (pc := 217) dL_could_217 rfl ?_
    refine g_aload (pc := 219) dL_could_219 rfl ?_
    refine g_aload (pc := 221) dL_could_221 rfl ?_
    refine g_sR6 (pc := 223) okS_L_copy rfl l_L_93 dL_could_223 (by decide) (by decide) (Nat.le_of_ble_eq_true rfl) (t_L_copy (zi_lawm hi) hz1) (by rw [c_len, c_len]) ?_
    simp only [Option.toList, List.cons_append, List.nil_append]
    refine g_aload_n (i := 0) (pc := 226) dL_could_226 rfl rfl ?_
    skip
    refine g_callV (pc := 227) (as := []) (bc' := 0) (bs' := 0) okV_X3_mostFree rfl l_L_105 dL_could_227 c_0 hc_3 rfl (Nat.le_of_ble_eq_true rfl) (by decide) (Nat.le_of_ble_eq_true rfl) ⟨by decide, by decide⟩ (t_X3_mostFree hK1) (fun h => nomatch h) (fun r w' h => ?_) (fun E w' h => nomatch h.1)
    obtain ⟨hr9, τ2, hτ2, rfl⟩ := h
    obtain rfl := Sum.inl.inj hr9
    simp only [Option.toList, List.cons_append, List.nil_append]
    have hK2 := kinv_ms (i := 1) hK1 hτ2
    have hs2 : k_ms (k_setms κ1 1 τ2) 0 = σ := (ms_ne κ1 τ2 (by decide)).trans hs1
    generalize k_setms κ1 1 τ2 = κ2 at hK2 hs2 ⊢
    refine G.eqS (congrArg (fun z => vI z) (congrArg (fun z => nff (s_pre z 32)) hs1)) ?_
    refine g_bipush (pc := 230) dL_could_230 (by decide) ?_
    have nf9 := nff_rng (s_pre σ 32)
    refine g_aload (pc := 232) dL_could_232 rfl ?_
    refine g_aload (pc := 234) dL_could_234 rfl ?_
    refine g_aload (pc := 236) dL_could_236 rfl ?_
    refine G.eqw cL_self2 ?_
    refine g_sIRRR (pc := 238) okS_L_press rfl l_L_108 dL_could_238 (by decide) (by decide) (Nat.le_of_ble_eq_true rfl) (t_L_press (a := 82) (σ := σ) cL_ok2 hi hbi (by omega)) (by simp only [l_len]) ?_
    simp only [Option.toList, List.cons_append, List.nil_append]
    refine G.eqw cL_set2 ?_
    have hz2 := zi_lawm (inv_itp hi 32 80)
    refine g_c_eq (tgt := 246) (pc := 241) dL_could_241 (by omega) (by decide) (fun c241 => ?_) (fun c241 => absurd c241 (by omega))
    refine g_aload_n (i := 2) (pc := 246) dL_could_246 rfl rfl ?_
    refine g_aload_n (i := 3) (pc := 247) dL_could_247 rfl rfl ?_
    refine g_aload (pc := 248) dL_could_248 rfl ?_
    refine g_aload (pc := 250) dL_could_250 rfl ?_
    refine g_aload (pc := 252) dL_could_252 rfl ?_
    refine g_aload (pc := 254) dL_could_254 rfl ?_
    refine g_sR6 (pc := 256) okS_L_copy rfl l_L_93 dL_could_256 (by decide) (by decide) (Nat.le_of_ble_eq_true rfl) (t_L_copy (zi_lawm hi) hz2) (by rw [c_len, c_len]) ?_
    simp only [Option.toList, List.cons_append, List.nil_append]
    refine g_iconst (pc := 259) dL_could_259 ?_
    refine g_istore (pc := 260) dL_could_260 (by decide) rfl ?_
    simp only [List.set_cons_succ, List.set_cons_zero]
    refine G.eqw (w' := cW κ2 (lawm σ) (lawm (itw σ p 0))) rfl ?_
    refine lp_up (P := fun j => (∀ i : Nat, i < j → oc (itw σ p i) p i ≠ -1) → G M_L_could none false false 262 [some (vR 0), some (vI p), some (vR 79), some (vR 80), some (vR 81), some (vR 82), some (vR 83), some (vR 84), some (vI (cmv σ)), some (vI ((j : Int))), none, none] [] (cW κ2 (lawm σ) (lawm (itw σ p j))) 2 12 (PCo σ)) 16 ?_ ?_ 0 (Nat.zero_le _) (fun i h => absurd h (Nat.not_lt_zero i))
    · intro hH
      have cw9 := cwv_16 hH
      have hz3 := zi_lawm (inv_itw hi p 16)
      refine g_iload (pc := 262) dL_could_262 rfl ?_
      refine g_bipush (pc := 264) dL_could_264 (by decide) ?_
      refine g_c_ge (tgt := 295) (pc := 266) dL_could_266 (by omega) (by decide) (fun c266 => ?_) (fun c266 => absurd c266 (by omega))
      refine g_aload_n (i := 0) (pc := 295) dL_could_295 rfl rfl ?_
      refine g_iload_n (i := 1) (pc := 296) dL_could_296 rfl rfl ?_
      have hxw : xc_wa (k_ms κ2 0) p = 0 := by unfold xc_wa; rw [hs2, if_pos h_P]
      refine g_callV (pc := 297) (as := [vI p]) (bc' := 2) (bs' := 12) okV_X3_writable rfl l_L_115 dL_could_297 c_0 hc_3 rfl (Nat.le_of_ble_eq_true rfl) (by decide) (Nat.le_of_ble_eq_true rfl) ⟨by decide, by decide⟩ (t_X3_writable hK2 (by omega)) (fun h => nomatch h) (fun r w' h => ?_) (fun E w' h => by rcases xR_e h.1 with ⟨q, -⟩ | ⟨q, -⟩ | ⟨q, -⟩ <;> (rw [hxw] at q; omega))
      obtain ⟨hr9, τ3, hτ3, rfl⟩ := h
      obtain ⟨-, rfl⟩ := xR_i hr9
      simp only [Option.toList, List.cons_append, List.nil_append]
      have hK3 := kinv_ms (i := 1) hK2 hτ3
      have hs3 : k_ms (k_setms κ2 1 τ3) 0 = σ := (ms_ne κ2 τ3 (by decide)).trans hs2
      generalize k_setms κ2 1 τ3 = κ3 at hK3 hs3 ⊢
      refine G.eqS (congrArg (fun z => vI z) (congrArg (fun z => cwv z p) hs2)) ?_
      refine g_iload (pc := 300) dL_could_300 rfl ?_
      refine g_c_ne (tgt := 309) (pc := 302) dL_could_302 (by omega) (by decide) (fun c302 => absurd c302 (by omega)) (fun c302 => ?_)
      refine g_iconst (pc := 305) dL_could_305 ?_
      refine g_goto (tgt := 310) (pc := 306) dL_could_306 (by decide) ?_
      refine g_zret (pc := 310) rfl dL_could_310 (by omega) (fun h => h) ?_
      exact ⟨rfl, _, _, hK3, hs3, hz3, rfl⟩
    · intro j hj ih hH
      have hij := inv_itw hi p j
      have oj9 := oc_rng (itw σ p j) p (j : Int)
      refine g_iload (pc := 262) dL_could_262 rfl ?_
      refine g_bipush (pc := 264) dL_could_264 (by decide) ?_
      refine g_c_ge (tgt := 295) (pc := 266) dL_could_266 (by omega) (by decide) (fun c266 => absurd c266 (by omega)) (fun c266 => ?_)
      refine g_bipush (pc := 269) dL_could_269 (by decide) ?_
      refine g_iload_n (i := 1) (pc := 271) dL_could_271 rfl rfl ?_
      refine g_imul (pc := 272) dL_could_272 ?_
      refine g_iload (pc := 273) dL_could_273 rfl ?_
      refine g_iadd (pc := 275) dL_could_275 ?_
      refine g_iconst (pc := 276) dL_could_276 ?_
      refine g_aload (pc := 277) dL_could_277 rfl ?_
      refine g_aload (pc := 279) dL_could_279 rfl ?_
      refine g_aload (pc := 281) dL_could_281 rfl ?_
      refine G.eqw cL_self2 ?_
      refine g_sIIRRR (pc := 283) okS_L_writes rfl l_L_111 dL_could_283 (by decide) (by decide) (Nat.le_of_ble_eq_true rfl) (t_L_writes (a := 82) (σ := itw σ p j) (p := p) (v := (j : Int)) cL_ok2 hij rfl (by omega) (by omega) (itw_pg h_P hj) (by omega)) (by simp only [l_len]) ?_
      simp only [Option.toList, List.cons_append, List.nil_append]
      refine G.eqw cL_set2 ?_
      have wv9 : (if oc (itw σ p j) p j = -1 then -3 else oc (itw σ p j) p j) < 0 ↔ oc (itw σ p j) p j = -1 := by split <;> omega
      have wv8 : -3 ≤ (if oc (itw σ p j) p j = -1 then -3 else oc (itw σ p j) p j) ∧ (if oc (itw σ p j) p j = -1 then -3 else oc (itw σ p j) p j) ≤ 3 := by split <;> omega
      refine g_z_lt (tgt := 295) (pc := 286) dL_could_286 (by omega) (by decide) (fun c286 => ?_) (fun c286 => ?_)
      · skip
        have ho9 : oc (itw σ p j) p j = -1 := by omega
        rw [if_pos ho9]
        have cw9 := cwv_at hj ho9 hH
        have hz3 := zi_lawm hij
        refine g_aload_n (i := 0) (pc := 295) dL_could_295 rfl rfl ?_
        refine g_iload_n (i := 1) (pc := 296) dL_could_296 rfl rfl ?_
        have hxw : xc_wa (k_ms κ2 0) p = 0 := by unfold xc_wa; rw [hs2, if_pos h_P]
        refine g_callV (pc := 297) (as := [vI p]) (bc' := 2) (bs' := 12) okV_X3_writable rfl l_L_115 dL_could_297 c_0 hc_3 rfl (Nat.le_of_ble_eq_true rfl) (by decide) (Nat.le_of_ble_eq_true rfl) ⟨by decide, by decide⟩ (t_X3_writable hK2 (by omega)) (fun h => nomatch h) (fun r w' h => ?_) (fun E w' h => by rcases xR_e h.1 with ⟨q, -⟩ | ⟨q, -⟩ | ⟨q, -⟩ <;> (rw [hxw] at q; omega))
        obtain ⟨hr9, τ3, hτ3, rfl⟩ := h
        obtain ⟨-, rfl⟩ := xR_i hr9
        simp only [Option.toList, List.cons_append, List.nil_append]
        have hK3 := kinv_ms (i := 1) hK2 hτ3
        have hs3 : k_ms (k_setms κ2 1 τ3) 0 = σ := (ms_ne κ2 τ3 (by decide)).trans hs2
        generalize k_setms κ2 1 τ3 = κ3 at hK3 hs3 ⊢
        refine G.eqS (congrArg (fun z => vI z) (congrArg (fun z => cwv z p) hs2)) ?_
        refine g_iload (pc := 300) dL_could_300 rfl ?_
        refine g_c_ne (tgt := 309) (pc := 302) dL_could_302 (by omega) (by decide) (fun c302 => absurd c302 (by omega)) (fun c302 => ?_)
        refine g_iconst (pc := 305) dL_could_305 ?_
        refine g_goto (tgt := 310) (pc := 306) dL_could_306 (by decide) ?_
        refine g_zret (pc := 310) rfl dL_could_310 (by omega) (fun h => h) ?_
        exact ⟨rfl, _, _, hK3, hs3, hz3, rfl⟩
      · skip
        have ho8 : ¬ oc (itw σ p j) p j = -1 := by omega
        rw [if_neg ho8]
        refine g_iinc (pc := 289) dL_could_289 rfl (by decide) rfl ?_
        simp only [List.set_cons_succ, List.set_cons_zero]
        refine g_goto (tgt := 262) (pc := 292) dL_could_292 (by decide) ?_
        have ho9 : oc (itw σ p j) p j ≠ -1 := by omega
        have e9 : itw σ p (j + 1) = s_wri (itw σ p j) p j 1 := by
          rw [itw, dw1 ho9]
        refine G.eqw (congrArg (fun z => cW κ2 (lawm σ) (lawm z)) e9.symm) (ih (fun i h => ?_))
        rcases Nat.lt_or_ge i j with q | q
        · exact hH i q
        · rw [show i = j by omega]; exact ho9
  · intro j hj ih
    obtain ⟨τ, hτ⟩ : ∃ τ, τ = itm σ j := ⟨_, rfl⟩
    refine G.eqw (congrArg (fun z => cW κ (lawm σ) (lawm z)) hτ.symm) ?_
    have hiT : Inv τ := by rw [hτ]; exact inv_itm hi j
    refine g_iload (pc := 19) dL_could_19 rfl ?_
    refine g_bipush (pc := 21) dL_could_21 (by decide) ?_
    refine g_c_ge (tgt := 202) (pc := 23) dL_could_23 (by omega) (by decide) (fun c23 => absurd c23 (by omega)) (fun c23 => ?_)
    refine g_iconst (pc := 26) dL_could_26 ?_
    refine g_istore (pc := 27) dL_could_27 (by decide) rfl ?_
    simp only [List.set_cons_succ, List.set_cons_zero]
    refine g_bipush (pc := 29) dL_could_29 (by decide) ?_
    refine g_istore (pc := 31) dL_could_31 (by decide) rfl ?_
    simp only [List.set_cons_succ, List.set_cons_zero]
    refine G.eqL2 (F := fun x y => [some (vR 0), some (vI p), some (vR 79), some (vR 80), some (vR 81), some (vR 82), some (vR 83), some (vR 84), some (vI (ct (fun i => decide (nxt (itm σ i) ≠ -1)) (j))), some (vI ((j : Int))), some (vI x), some (vI y)]) (x' := fx (mp0 τ) 16 16) (y' := ((16 : Nat) : Int) + (-1)) (fx_n _ _).symm (by omega) ?_
    refine lp_dn (P := fun k => G M_L_could none false false 33 [some (vR 0), some (vI p), some (vR 79), some (vR 80), some (vR 81), some (vR 82), some (vR 83), some (vR 84), some (vI (ct (fun i => decide (nxt (itm σ i) ≠ -1)) (j))), some (vI ((j : Int))), some (vI (fx (mp0 τ) 16 k)), some (vI ((k : Int) + (-1)))] [] (cW κ (lawm σ) (lawm (τ))) 2 12 (PCo σ)) 16 ?_ ?_
    · refine G.eqL (congrArg (fun z => [some (vR 0), some (vI p), some (vR 79), some (vR 80), some (vR 81), some (vR 82), some (vR 83), some (vR 84), some (vI (ct (fun i => decide (nxt (itm σ i) ≠ -1)) (j))), some (vI ((j : Int))), some (vI z), some (vI (((0 : Nat) : Int) + (-1)))]) (mp0_0 τ)) ?_
      refine g_iload (pc := 33) dL_could_33 rfl ?_
      refine g_z_lt (tgt := 90) (pc := 35) dL_could_35 (by omega) (by decide) (fun c35 => ?_) (fun c35 => absurd c35 (by omega))
      refine g_bipush (pc := 90) dL_could_90 (by decide) ?_
      refine g_istore (pc := 92) dL_could_92 (by decide) rfl ?_
      simp only [List.set_cons_succ, List.set_cons_zero]
      refine G.eqL2 (F := fun x y => [some (vR 0), some (vI p), some (vR 79), some (vR 80), some (vR 81), some (vR 82), some (vR 83), some (vR 84), some (vI (ct (fun i => decide (nxt (itm σ i) ≠ -1)) (j))), some (vI ((j : Int))), some (vI x), some (vI y)]) (x' := cf τ 16) (y' := ((16 : Nat) : Int) + (-1)) (cf_16 τ).symm (by omega) ?_
      refine lp_dn (P := fun k => G M_L_could none false false 94 [some (vR 0), some (vI p), some (vR 79), some (vR 80), some (vR 81), some (vR 82), some (vR 83), some (vR 84), some (vI (ct (fun i => decide (nxt (itm σ i) ≠ -1)) (j))), some (vI ((j : Int))), some (vI (cf τ k)), some (vI ((k : Int) + (-1)))] [] (cW κ (lawm σ) (lawm (τ))) 2 12 (PCo σ)) 16 ?_ ?_
      · refine G.eqL (congrArg (fun z => [some (vR 0), some (vI p), some (vR 79), some (vR 80), some (vR 81), some (vR 82), some (vR 83), some (vR 84), some (vI (ct (fun i => decide (nxt (itm σ i) ≠ -1)) (j))), some (vI ((j : Int))), some (vI z), some (vI (((0 : Nat) : Int) + (-1)))]) (cf_0 τ)) ?_
        refine g_iload (pc := 94) dL_could_94 rfl ?_
        refine g_z_lt (tgt := 173) (pc := 96) dL_could_96 (by omega) (by decide) (fun c96 => ?_) (fun c96 => absurd c96 (by omega))
        have nr9 := nxt_rng τ
        refine g_iload (pc := 173) dL_could_173 rfl ?_
        refine g_z_ge (tgt := 181) (pc := 175) dL_could_175 (by omega) (by decide) (fun c175 => ?_) (fun c175 => ?_)
        · skip
          refine g_iload (pc := 181) dL_could_181 rfl ?_
          refine g_aload (pc := 183) dL_could_183 rfl ?_
          refine g_aload (pc := 185) dL_could_185 rfl ?_
          refine g_aload (pc := 187) dL_could_187 rfl ?_
          obtain ⟨n1, n2, n3⟩ := nxt_ok (σ := τ) (by omega)
          refine G.eqw cL_self2 ?_
          refine g_sIRRR (pc := 189) okS_L_weds rfl l_L_97 dL_could_189 (by decide) (by decide) (Nat.le_of_ble_eq_true rfl) (t_L_weds (a := 82) (σ := τ) (p := nxt τ / 4) (g := nxt τ % 4) cL_ok2 hiT (by omega) ⟨n1.1, n1.2.1⟩ n2 (decide_eq_true n1)) (by simp only [l_len]) ?_
          rw [if_pos n3, if_pos n3]
          simp only [Option.toList, List.cons_append, List.nil_append]
          refine G.eqw cL_set2 ?_
          refine g_pop (pc := 192) dL_could_192 (fun z h => nomatch h) ?_
          refine g_iinc (pc := 193) dL_could_193 rfl (by decide) rfl ?_
          simp only [List.set_cons_succ, List.set_cons_zero]
          refine g_iinc (pc := 196) dL_could_196 rfl (by decide) rfl ?_
          simp only [List.set_cons_succ, List.set_cons_zero]
          refine g_goto (tgt := 19) (pc := 199) dL_could_199 (by decide) ?_
          refine G.drop 11 (G.drop 10 ?_)
          simp only [List.set_cons_succ, List.set_cons_zero]
          have e9 : itm σ (j + 1) = s_mar τ (nxt τ / 4) (nxt τ % 4) := by
            rw [itm, ← hτ]
            unfold dn
            rw [if_pos (by omega)]
          refine G.eqL (congrArg (fun z => [some (vR 0), some (vI p), some (vR 79), some (vR 80), some (vR 81), some (vR 82), some (vR 83), some (vR 84), some (vI z), some (vI ((j : Int) + 1)), none, none]) (ct_yes (p := fun i => decide (nxt (itm σ i) ≠ -1)) (n := j) (decide_eq_true (by rw [← hτ]; omega))).symm) ?_
          exact G.eqw (congrArg (fun z => cW κ (lawm σ) (lawm z)) e9.symm) ih
        · skip
          refine g_goto (tgt := 196) (pc := 178) dL_could_178 (by decide) ?_
          refine g_iinc (pc := 196) dL_could_196 rfl (by decide) rfl ?_
          simp only [List.set_cons_succ, List.set_cons_zero]
          refine g_goto (tgt := 19) (pc := 199) dL_could_199 (by decide) ?_
          refine G.drop 11 (G.drop 10 ?_)
          simp only [List.set_cons_succ, List.set_cons_zero]
          have e9 : itm σ (j + 1) = τ := by
            rw [itm, ← hτ]
            unfold dn
            rw [if_neg (by omega)]
          refine G.eqL (congrArg (fun z => [some (vR 0), some (vI p), some (vR 79), some (vR 80), some (vR 81), some (vR 82), some (vR 83), some (vR 84), some (vI z), some (vI ((j : Int) + 1)), none, none]) (ct_no (p := fun i => decide (nxt (itm σ i) ≠ -1)) (n := j) (fun z => by have z9 := of_decide_eq_true z; rw [← hτ] at z9; omega)).symm) ?_
          exact G.eqw (congrArg (fun z => cW κ (lawm σ) (lawm z)) e9.symm) ih
      · intro k hk ih2
        refine G.eqL (L' := [some (vR 0), some (vI p), some (vR 79), some (vR 80), some (vR 81), some (vR 82), some (vR 83), some (vR 84), some (vI (ct (fun i => decide (nxt (itm σ i) ≠ -1)) (j))), some (vI ((j : Int))), some (vI (cf τ (k + 1))), some (vI ((k : Int)))]) (congrArg (fun z => [some (vR 0), some (vI p), some (vR 79), some (vR 80), some (vR 81), some (vR 82), some (vR 83), some (vR 84), some (vI (ct (fun i => decide (nxt (itm σ i) ≠ -1)) (j))), some (vI ((j : Int))), some (vI (cf τ (k + 1))), some (vI z)]) (show ((k + 1 : Nat) : Int) + (-1) = (k : Int) by omega)) ?_
        have f9 := cf_rng τ (k + 1)
        have m9 := @mp1_iff τ k
        have c9 := @cf_pl τ k hk
        have hkp : (0 ≤ ((k / 4 : Nat) : Int) ∧ ((k / 4 : Nat) : Int) < 4) ∧ 0 ≤ ((k % 4 : Nat) : Int) ∧ ((k % 4 : Nat) : Int) < 4 := by omega
        refine g_iload (pc := 94) dL_could_94 rfl ?_
        refine g_z_lt (tgt := 173) (pc := 96) dL_could_96 (by omega) (by decide) (fun c96 => absurd c96 (by omega)) (fun c96 => ?_)
        refine g_aload (pc := 99) dL_could_99 rfl ?_
        refine g_iconst (pc := 101) dL_could_101 ?_
        refine g_iald (pc := 102) dL_could_102 (c_82) (by omega) ?_
        refine G.eqS (v' := vI (bsum (s_ex τ) 4)) rfl ?_
        refine g_iload (pc := 103) dL_could_103 rfl ?_
        refine g_iconst (pc := 105) dL_could_105 ?_
        refine g_idiv (pc := 106) dL_could_106 (by omega) (by omega) ?_
        refine g_ishr (pc := 107) dL_could_107 ?_
        refine g_iconst (pc := 108) dL_could_108 ?_
        refine g_iand (pc := 109) dL_could_109 ?_
        refine G.eqS (congrArg (fun z => vI z) ((congrArg (fun z => b_and (b_shr (bsum (s_ex τ) 4) z) 1) (n_dv k 4)).trans (bit_ex hiT (p := ((k / 4 : Nat) : Int)) hkp.1))) ?_
        have x9 := b2_rng (hasP τ ((k / 4 : Nat) : Int))
        refine g_iconst (pc := 110) dL_could_110 ?_
        refine G.join2 (T := 165) (v := cf τ k) ?_ (fun J => ?_)
        · skip
          refine g_istore (pc := 165) dL_could_165 (by decide) rfl ?_
          simp only [List.set_cons_succ, List.set_cons_zero]
          refine g_iinc (pc := 167) dL_could_167 rfl (by decide) rfl ?_
          simp only [List.set_cons_succ, List.set_cons_zero]
          refine g_goto (tgt := 94) (pc := 170) dL_could_170 (by decide) ?_
          exact ih2
        · skip
          refine g_c_ne (tgt := 163) (pc := 111) dL_could_111 (by omega) (by decide) (fun c111 => ?_) (fun c111 => ?_)
          · skip
            refine g_iload (pc := 163) dL_could_163 rfl ?_
            refine G.eqS (congrArg (fun z => vI z) ?_) J
            rw [cf_s hk]
            first
            | (rw [if_pos (m9.mpr ⟨b2_1.mp (by omega), by omega, b2_1.mp (by omega)⟩)]; done)
            | (rw [if_neg (fun z => b2_0.mp (by omega) (m9.mp z).1)]; done)
            | (rw [if_neg (fun z => by have z9 := (m9.mp z).2.1; omega)]; done)
            | (rw [if_neg (fun z => b2_0.mp (by omega) (m9.mp z).2.2)]; done)
            | (exfalso; have z9 := c9 (by omega) (b2_1.mp (by omega)); omega)
          · skip
            refine g_iload (pc := 114) dL_could_114 rfl ?_
            refine g_aload (pc := 116) dL_could_116 rfl ?_
            refine g_aload (pc := 118) dL_could_118 rfl ?_
            refine g_sIRR (pc := 120) okS_L_why rfl l_L_69 dL_could_120 (by decide) (by decide) (Nat.le_of_ble_eq_true rfl) (t_L_why (σ := τ) (p := ((k / 4 : Nat) : Int)) (g := ((k % 4 : Nat) : Int)) c_82 c_83 hiT (by omega) hkp.1 hkp.2) rfl ?_
            simp only [Option.toList, List.cons_append, List.nil_append]
            have bb := wn_rng τ ((k / 4 : Nat) : Int) ((k % 4 : Nat) : Int)
            refine g_z_ne (tgt := 163) (pc := 123) dL_could_123 (by omega) (by decide) (fun c123 => ?_) (fun c123 => ?_)
            · skip
              refine g_iload (pc := 163) dL_could_163 rfl ?_
              refine G.eqS (congrArg (fun z => vI z) ?_) J
              rw [cf_s hk]
              first
              | (rw [if_pos (m9.mpr ⟨b2_1.mp (by omega), by omega, b2_1.mp (by omega)⟩)]; done)
              | (rw [if_neg (fun z => b2_0.mp (by omega) (m9.mp z).1)]; done)
              | (rw [if_neg (fun z => by have z9 := (m9.mp z).2.1; omega)]; done)
              | (rw [if_neg (fun z => b2_0.mp (by omega) (m9.mp z).2.2)]; done)
              | (exfalso; have z9 := c9 (by omega) (b2_1.mp (by omega)); omega)
            · skip
              refine g_iload (pc := 126) dL_could_126 rfl ?_
              refine g_aload (pc := 128) dL_could_128 rfl ?_
              refine g_sIR (pc := 130) okS_L_place rfl l_L_66 dL_could_130 (by decide) (by decide) (Nat.le_of_ble_eq_true rfl) (t_L_place (σ := τ) (p := ((k / 4 : Nat) : Int)) (g := ((k % 4 : Nat) : Int)) c_83 hiT (by omega) hkp.1 hkp.2) rfl ?_
              simp only [Option.toList, List.cons_append, List.nil_append]
              have bb := b2_rng (ip τ ((k / 4 : Nat) : Int) ((k % 4 : Nat) : Int))
              refine g_z_eq (tgt := 163) (pc := 133) dL_could_133 (by omega) (by decide) (fun c133 => ?_) (fun c133 => ?_)
              · skip
                refine g_iload (pc := 163) dL_could_163 rfl ?_
                refine G.eqS (congrArg (fun z => vI z) ?_) J
                rw [cf_s hk]
                first
                | (rw [if_pos (m9.mpr ⟨b2_1.mp (by omega), by omega, b2_1.mp (by omega)⟩)]; done)
                | (rw [if_neg (fun z => b2_0.mp (by omega) (m9.mp z).1)]; done)
                | (rw [if_neg (fun z => by have z9 := (m9.mp z).2.1; omega)]; done)
                | (rw [if_neg (fun z => b2_0.mp (by omega) (m9.mp z).2.2)]; done)
                | (exfalso; have z9 := c9 (by omega) (b2_1.mp (by omega)); omega)
              · skip
                refine g_iload (pc := 136) dL_could_136 rfl ?_
                refine g_z_lt (tgt := 158) (pc := 138) dL_could_138 (by omega) (by decide) (fun c138 => ?_) (fun c138 => ?_)
                · skip
                  refine g_iload (pc := 158) dL_could_158 rfl ?_
                  refine g_goto (tgt := 165) (pc := 160) dL_could_160 (by decide) ?_
                  refine G.eqS (congrArg (fun z => vI z) ?_) J
                  rw [cf_s hk]
                  first
                  | (rw [if_pos (m9.mpr ⟨b2_1.mp (by omega), by omega, b2_1.mp (by omega)⟩)]; done)
                  | (rw [if_neg (fun z => b2_0.mp (by omega) (m9.mp z).1)]; done)
                  | (rw [if_neg (fun z => by have z9 := (m9.mp z).2.1; omega)]; done)
                  | (rw [if_neg (fun z => b2_0.mp (by omega) (m9.mp z).2.2)]; done)
                  | (exfalso; have z9 := c9 (by omega) (b2_1.mp (by omega)); omega)
                · skip
                  refine g_iload (pc := 141) dL_could_141 rfl ?_
                  refine g_aload (pc := 143) dL_could_143 rfl ?_
                  refine g_sIR (pc := 145) okS_L_place rfl l_L_66 dL_could_145 (by decide) (by decide) (Nat.le_of_ble_eq_true rfl) (t_L_place (σ := τ) (p := cf τ (k + 1) / 4) (g := cf τ (k + 1) % 4) c_83 hiT (by omega) (by omega) (by omega)) rfl ?_
                  simp only [Option.toList, List.cons_append, List.nil_append]
                  have bb := b2_rng (ip τ (cf τ (k + 1) / 4) (cf τ (k + 1) % 4))
                  refine g_z_eq (tgt := 158) (pc := 148) dL_could_148 (by omega) (by decide) (fun c148 => ?_) (fun c148 => ?_)
                  · skip
                    refine g_iload (pc := 158) dL_could_158 rfl ?_
                    refine g_goto (tgt := 165) (pc := 160) dL_could_160 (by decide) ?_
                    refine G.eqS (congrArg (fun z => vI z) ?_) J
                    rw [cf_s hk]
                    first
                    | (rw [if_pos (m9.mpr ⟨b2_1.mp (by omega), by omega, b2_1.mp (by omega)⟩)]; done)
                    | (rw [if_neg (fun z => b2_0.mp (by omega) (m9.mp z).1)]; done)
                    | (rw [if_neg (fun z => by have z9 := (m9.mp z).2.1; omega)]; done)
                    | (rw [if_neg (fun z => b2_0.mp (by omega) (m9.mp z).2.2)]; done)
                    | (exfalso; have z9 := c9 (by omega) (b2_1.mp (by omega)); omega)
                  · skip
                    refine g_iload (pc := 151) dL_could_151 rfl ?_
                    refine g_iload (pc := 153) dL_could_153 rfl ?_
                    refine g_c_ge (tgt := 163) (pc := 155) dL_could_155 (by omega) (by decide) (fun c155 => ?_) (fun c155 => ?_)
                    · skip
                      refine g_iload (pc := 163) dL_could_163 rfl ?_
                      refine G.eqS (congrArg (fun z => vI z) ?_) J
                      rw [cf_s hk]
                      first
                      | (rw [if_pos (m9.mpr ⟨b2_1.mp (by omega), by omega, b2_1.mp (by omega)⟩)]; done)
                      | (rw [if_neg (fun z => b2_0.mp (by omega) (m9.mp z).1)]; done)
                      | (rw [if_neg (fun z => by have z9 := (m9.mp z).2.1; omega)]; done)
                      | (rw [if_neg (fun z => b2_0.mp (by omega) (m9.mp z).2.2)]; done)
                      | (exfalso; have z9 := c9 (by omega) (b2_1.mp (by omega)); omega)
                    · skip
                      refine g_iload (pc := 158) dL_could_158 rfl ?_
                      refine g_goto (tgt := 165) (pc := 160) dL_could_160 (by decide) ?_
                      refine G.eqS (congrArg (fun z => vI z) ?_) J
                      rw [cf_s hk]
                      first
                      | (rw [if_pos (m9.mpr ⟨b2_1.mp (by omega), by omega, b2_1.mp (by omega)⟩)]; done)
                      | (rw [if_neg (fun z => b2_0.mp (by omega) (m9.mp z).1)]; done)
                      | (rw [if_neg (fun z => by have z9 := (m9.mp z).2.1; omega)]; done)
                      | (rw [if_neg (fun z => b2_0.mp (by omega) (m9.mp z).2.2)]; done)
                      | (exfalso; have z9 := c9 (by omega) (b2_1.mp (by omega)); omega)
    · intro k hk ih2
      refine G.eqL (L' := [some (vR 0), some (vI p), some (vR 79), some (vR 80), some (vR 81), some (vR 82), some (vR 83), some (vR 84), some (vI (ct (fun i => decide (nxt (itm σ i) ≠ -1)) (j))), some (vI ((j : Int))), some (vI (fx (mp0 τ) 16 (k + 1))), some (vI ((k : Int)))]) (congrArg (fun z => [some (vR 0), some (vI p), some (vR 79), some (vR 80), some (vR 81), some (vR 82), some (vR 83), some (vR 84), some (vI (ct (fun i => decide (nxt (itm σ i) ≠ -1)) (j))), some (vI ((j : Int))), some (vI (fx (mp0 τ) 16 (k + 1))), some (vI z)]) (show ((k + 1 : Nat) : Int) + (-1) = (k : Int) by omega)) ?_
      have f9 := fx_rng (mp0 τ) 16 (k + 1)
      have m9 := @mp0_iff τ k
      have hkp : (0 ≤ ((k / 4 : Nat) : Int) ∧ ((k / 4 : Nat) : Int) < 4) ∧ 0 ≤ ((k % 4 : Nat) : Int) ∧ ((k % 4 : Nat) : Int) < 4 := by omega
      refine g_iload (pc := 33) dL_could_33 rfl ?_
      refine g_z_lt (tgt := 90) (pc := 35) dL_could_35 (by omega) (by decide) (fun c35 => absurd c35 (by omega)) (fun c35 => ?_)
      refine g_aload (pc := 38) dL_could_38 rfl ?_
      refine g_iconst (pc := 40) dL_could_40 ?_
      refine g_iald (pc := 41) dL_could_41 (c_82) (by omega) ?_
      refine G.eqS (v' := vI (bsum (s_ex τ) 4)) rfl ?_
      refine g_iload (pc := 42) dL_could_42 rfl ?_
      refine g_iconst (pc := 44) dL_could_44 ?_
      refine g_idiv (pc := 45) dL_could_45 (by omega) (by omega) ?_
      refine g_ishr (pc := 46) dL_could_46 ?_
      refine g_iconst (pc := 47) dL_could_47 ?_
      refine g_iand (pc := 48) dL_could_48 ?_
      refine G.eqS (congrArg (fun z => vI z) ((congrArg (fun z => b_and (b_shr (bsum (s_ex τ) 4) z) 1) (n_dv k 4)).trans (bit_ex hiT (p := ((k / 4 : Nat) : Int)) hkp.1))) ?_
      have x9 := b2_rng (hasP τ ((k / 4 : Nat) : Int))
      refine g_iconst (pc := 49) dL_could_49 ?_
      refine G.join2 (T := 82) (v := fx (mp0 τ) 16 k) ?_ (fun J => ?_)
      · skip
        refine g_istore (pc := 82) dL_could_82 (by decide) rfl ?_
        simp only [List.set_cons_succ, List.set_cons_zero]
        refine g_iinc (pc := 84) dL_could_84 rfl (by decide) rfl ?_
        simp only [List.set_cons_succ, List.set_cons_zero]
        refine g_goto (tgt := 33) (pc := 87) dL_could_87 (by decide) ?_
        exact ih2
      · skip
        refine g_c_ne (tgt := 80) (pc := 50) dL_could_50 (by omega) (by decide) (fun c50 => ?_) (fun c50 => ?_)
        · skip
          refine g_iload (pc := 80) dL_could_80 rfl ?_
          refine G.eqS (congrArg (fun z => vI z) ?_) J
          rw [fx_s hk]
          first
          | (rw [if_pos (m9.mpr ⟨b2_1.mp (by omega), by omega, b2_0.mp (by omega)⟩)]; done)
          | (rw [if_neg (fun z => b2_0.mp (by omega) (m9.mp z).1)]; done)
          | (rw [if_neg (fun z => by have z9 := (m9.mp z).2.1; omega)]; done)
          | (rw [if_neg (fun z => (m9.mp z).2.2 (b2_1.mp (by omega)))]; done)
        · skip
          refine g_iload (pc := 53) dL_could_53 rfl ?_
          refine g_aload (pc := 55) dL_could_55 rfl ?_
          refine g_aload (pc := 57) dL_could_57 rfl ?_
          refine g_sIRR (pc := 59) okS_L_why rfl l_L_69 dL_could_59 (by decide) (by decide) (Nat.le_of_ble_eq_true rfl) (t_L_why (σ := τ) (p := ((k / 4 : Nat) : Int)) (g := ((k % 4 : Nat) : Int)) c_82 c_83 hiT (by omega) hkp.1 hkp.2) rfl ?_
          simp only [Option.toList, List.cons_append, List.nil_append]
          have bb := wn_rng τ ((k / 4 : Nat) : Int) ((k % 4 : Nat) : Int)
          refine g_z_ne (tgt := 80) (pc := 62) dL_could_62 (by omega) (by decide) (fun c62 => ?_) (fun c62 => ?_)
          · skip
            refine g_iload (pc := 80) dL_could_80 rfl ?_
            refine G.eqS (congrArg (fun z => vI z) ?_) J
            rw [fx_s hk]
            first
            | (rw [if_pos (m9.mpr ⟨b2_1.mp (by omega), by omega, b2_0.mp (by omega)⟩)]; done)
            | (rw [if_neg (fun z => b2_0.mp (by omega) (m9.mp z).1)]; done)
            | (rw [if_neg (fun z => by have z9 := (m9.mp z).2.1; omega)]; done)
            | (rw [if_neg (fun z => (m9.mp z).2.2 (b2_1.mp (by omega)))]; done)
          · skip
            refine g_iload (pc := 65) dL_could_65 rfl ?_
            refine g_aload (pc := 67) dL_could_67 rfl ?_
            refine g_sIR (pc := 69) okS_L_place rfl l_L_66 dL_could_69 (by decide) (by decide) (Nat.le_of_ble_eq_true rfl) (t_L_place (σ := τ) (p := ((k / 4 : Nat) : Int)) (g := ((k % 4 : Nat) : Int)) c_83 hiT (by omega) hkp.1 hkp.2) rfl ?_
            simp only [Option.toList, List.cons_append, List.nil_append]
            have bb := b2_rng (ip τ ((k / 4 : Nat) : Int) ((k % 4 : Nat) : Int))
            refine g_z_ne (tgt := 80) (pc := 72) dL_could_72 (by omega) (by decide) (fun c72 => ?_) (fun c72 => ?_)
            · skip
              refine g_iload (pc := 80) dL_could_80 rfl ?_
              refine G.eqS (congrArg (fun z => vI z) ?_) J
              rw [fx_s hk]
              first
              | (rw [if_pos (m9.mpr ⟨b2_1.mp (by omega), by omega, b2_0.mp (by omega)⟩)]; done)
              | (rw [if_neg (fun z => b2_0.mp (by omega) (m9.mp z).1)]; done)
              | (rw [if_neg (fun z => by have z9 := (m9.mp z).2.1; omega)]; done)
              | (rw [if_neg (fun z => (m9.mp z).2.2 (b2_1.mp (by omega)))]; done)
            · skip
              refine g_iload (pc := 75) dL_could_75 rfl ?_
              refine g_goto (tgt := 82) (pc := 77) dL_could_77 (by decide) ?_
              refine G.eqS (congrArg (fun z => vI z) ?_) J
              rw [fx_s hk]
              first
              | (rw [if_pos (m9.mpr ⟨b2_1.mp (by omega), by omega, b2_0.mp (by omega)⟩)]; done)
              | (rw [if_neg (fun z => b2_0.mp (by omega) (m9.mp z).1)]; done)
              | (rw [if_neg (fun z => by have z9 := (m9.mp z).2.1; omega)]; done)
              | (rw [if_neg (fun z => (m9.mp z).2.2 (b2_1.mp (by omega)))]; done)
end CO9
