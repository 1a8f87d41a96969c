/-! THE LAW'S BODY (printed by wip/whole/claim.py) -/
section MZ
def LQ : (Option MV) ⊕ String → List MC → Prop := fun r _ => r = .inl (some (vI 1))
set_option maxRecDepth 20000 in
set_option maxHeartbeats 1000000 in
theorem l_loop {n : Nat} {f : Nat → Int} (hf : ∀ j, -2147483648 ≤ f j ∧ f j < 2147483648) (hn : n ≤ 2048) : ∀ t, t ≤ n / 4 → ∀ (κ : KT) (ν : NT) (o : Nat → Int), KInv κ → Rel κ ν → G M_L_law (some (n, f)) false false 23 [some (vR SCR), some (vR 0), some (vR 79), some (vR 87), some (vI ((4 * t : Nat) : Int)), none, none] [] (cW κ (dE ν) o) (2 * (n / 4 - t)) (12 * (n / 4 - t)) LQ := by
  refine lp_up (P := fun t => ∀ (κ : KT) (ν : NT) (o : Nat → Int), KInv κ → Rel κ ν → G M_L_law (some (n, f)) false false 23 [some (vR SCR), some (vR 0), some (vR 79), some (vR 87), some (vI ((4 * t : Nat) : Int)), none, none] [] (cW κ (dE ν) o) (2 * (n / 4 - t)) (12 * (n / 4 - t)) LQ) (n / 4) ?_ ?_
  · intro κ ν o hK hR
    show G _ _ _ _ _ _ _ _ _ _ _
    refine g_iload (pc := 23) dL_law_23 rfl ?_
    refine g_aload_n (i := 0) (pc := 25) dL_law_25 rfl rfl ?_
    refine g_slen (pc := 26) rfl dL_law_26 ?_
    refine g_iconst (pc := 27) dL_law_27 ?_
    refine g_isub (pc := 28) dL_law_28 ?_
    refine g_c_gt (tgt := 1567) (pc := 29) dL_law_29 (by omega) (by decide) (fun _ => ?_) (fun c9 => absurd c9 (by omega))
    refine g_iconst (pc := 1567) dL_law_1567 ?_
    refine g_zret (pc := 1568) rfl dL_law_1568 (Or.inr rfl) (fun h => h) ?_
    exact rfl
  · intro t ht ih κ ν o hK hR
    show G _ _ _ _ _ _ _ _ _ _ _
    refine g_iload (pc := 23) dL_law_23 rfl ?_
    refine g_aload_n (i := 0) (pc := 25) dL_law_25 rfl rfl ?_
    refine g_slen (pc := 26) rfl dL_law_26 ?_
    refine g_iconst (pc := 27) dL_law_27 ?_
    refine g_isub (pc := 28) dL_law_28 ?_
    refine g_c_gt (tgt := 1567) (pc := 29) dL_law_29 (by omega) (by decide) (fun c9 => absurd c9 (by omega)) (fun _ => ?_)
    refine g_aload_n (i := 0) (pc := 32) dL_law_32 rfl rfl ?_
    refine g_iload (pc := 33) dL_law_33 rfl ?_
    refine g_sld (pc := 35) rfl dL_law_35 (by omega) ?_
    refine g_bipush (pc := 36) dL_law_36 (by decide) ?_
    refine g_iand (pc := 38) dL_law_38 ?_
    have hs9 := b_and31 (f ((4 * t : Nat) : Int).toNat)
    refine G.bud (bc := 2 * (n / 4 - (t + 1)) + 2) (bs := 12 * (n / 4 - (t + 1)) + 12) ?_ (by omega) (by omega)
    have h_i : 0 ≤ ((4 * t : Nat) : Int) ∧ ((4 * t : Nat) : Int) + 3 < (n : Int) ∧ n < 2147483648 := by omega
    have hB : LB n f ((4 * t : Nat) : Int) (2 * (n / 4 - (t + 1))) (12 * (n / 4 - (t + 1))) LQ := by
      intro κ ν o hK hR
      refine g_iinc (pc := 1561) dL_law_1561 rfl (by decide) rfl ?_
      simp only [List.set_cons_succ, List.set_cons_zero]
      refine g_goto (tgt := 23) (pc := 1564) dL_law_1564 (by decide) ?_
      refine G.eqL (L' := [some (vR SCR), some (vR 0), some (vR 79), some (vR 87), some (vI ((4 * (t + 1) : Nat) : Int)), none, none]) (congrArg (fun z => [some (vR SCR), some (vR 0), some (vR 79), some (vR 87), some (vI z), none, none]) (by omega)) (ih κ ν o hK hR)
    generalize hz : b_and (f ((4 * t : Nat) : Int).toNat) 31 = z at hs9
    by_cases sw : z ≤ 24
    · rcases (by omega : z = 0 ∨ z = 1 ∨ z = 2 ∨ z = 3 ∨ z = 4 ∨ z = 5 ∨ z = 6 ∨ z = 7 ∨ z = 8 ∨ z = 9 ∨ z = 10 ∨ z = 11 ∨ z = 12 ∨ z = 13 ∨ z = 14 ∨ z = 15 ∨ z = 16 ∨ z = 17 ∨ z = 18 ∨ z = 19 ∨ z = 20 ∨ z = 21 ∨ z = 22 ∨ z = 23 ∨ z = 24) with ew | ew | ew | ew | ew | ew | ew | ew | ew | ew | ew | ew | ew | ew | ew | ew | ew | ew | ew | ew | ew | ew | ew | ew | ew
      · refine g_tsIn (tgt := 152) (pc := 39) dL_law_39 (by omega) (by omega) (by omega) (by rw [ew]; rfl) (by decide) ?_
        exact lc_0 hf h_i hK hR hB
      · refine g_tsIn (tgt := 208) (pc := 39) dL_law_39 (by omega) (by omega) (by omega) (by rw [ew]; rfl) (by decide) ?_
        exact lc_1 hf h_i hK hR hB
      · refine g_tsIn (tgt := 221) (pc := 39) dL_law_39 (by omega) (by omega) (by omega) (by rw [ew]; rfl) (by decide) ?_
        exact lc_2 hf h_i hK hR hB
      · refine g_tsIn (tgt := 234) (pc := 39) dL_law_39 (by omega) (by omega) (by omega) (by rw [ew]; rfl) (by decide) ?_
        exact lc_3 hf h_i hK hR hB
      · refine g_tsIn (tgt := 278) (pc := 39) dL_law_39 (by omega) (by omega) (by omega) (by rw [ew]; rfl) (by decide) ?_
        exact lc_4 hf h_i hK hR hB
      · refine g_tsIn (tgt := 334) (pc := 39) dL_law_39 (by omega) (by omega) (by omega) (by rw [ew]; rfl) (by decide) ?_
        exact lc_5 hf h_i hK hR hB
      · refine g_tsIn (tgt := 414) (pc := 39) dL_law_39 (by omega) (by omega) (by omega) (by rw [ew]; rfl) (by decide) ?_
        exact lc_6 hf h_i hK hR hB
      · refine g_tsIn (tgt := 482) (pc := 39) dL_law_39 (by omega) (by omega) (by omega) (by rw [ew]; rfl) (by decide) ?_
        exact lc_7 hf h_i hK hR hB
      · refine g_tsIn (tgt := 562) (pc := 39) dL_law_39 (by omega) (by omega) (by omega) (by rw [ew]; rfl) (by decide) ?_
        exact lc_8 hf h_i hK hR hB
      · refine g_tsIn (tgt := 642) (pc := 39) dL_law_39 (by omega) (by omega) (by omega) (by rw [ew]; rfl) (by decide) ?_
        exact lc_9 hf h_i hK hR hB
      · refine g_tsIn (tgt := 698) (pc := 39) dL_law_39 (by omega) (by omega) (by omega) (by rw [ew]; rfl) (by decide) ?_
        exact lc_10 hf h_i hK hR hB
      · refine g_tsIn (tgt := 754) (pc := 39) dL_law_39 (by omega) (by omega) (by omega) (by rw [ew]; rfl) (by decide) ?_
        exact lc_11 hf h_i hK hR hB
      · refine g_tsIn (tgt := 822) (pc := 39) dL_law_39 (by omega) (by omega) (by omega) (by rw [ew]; rfl) (by decide) ?_
        exact lc_12 hf h_i hK hR hB
      · refine g_tsIn (tgt := 890) (pc := 39) dL_law_39 (by omega) (by omega) (by omega) (by rw [ew]; rfl) (by decide) ?_
        exact lc_13 hf h_i hK hR hB
      · refine g_tsIn (tgt := 946) (pc := 39) dL_law_39 (by omega) (by omega) (by omega) (by rw [ew]; rfl) (by decide) ?_
        exact lc_14 hf h_i hK hR hB
      · refine g_tsIn (tgt := 987) (pc := 39) dL_law_39 (by omega) (by omega) (by omega) (by rw [ew]; rfl) (by decide) ?_
        exact lc_15 hf h_i hK hR hB
      · refine g_tsIn (tgt := 1031) (pc := 39) dL_law_39 (by omega) (by omega) (by omega) (by rw [ew]; rfl) (by decide) ?_
        exact lc_16 hf h_i hK hR hB
      · refine g_tsIn (tgt := 1099) (pc := 39) dL_law_39 (by omega) (by omega) (by omega) (by rw [ew]; rfl) (by decide) ?_
        exact lc_17 hf h_i hK hR hB
      · refine g_tsIn (tgt := 1167) (pc := 39) dL_law_39 (by omega) (by omega) (by omega) (by rw [ew]; rfl) (by decide) ?_
        exact lc_18 hf h_i hK hR hB
      · refine g_tsIn (tgt := 1180) (pc := 39) dL_law_39 (by omega) (by omega) (by omega) (by rw [ew]; rfl) (by decide) ?_
        exact lc_19 hf h_i hK hR hB
      · refine g_tsIn (tgt := 1193) (pc := 39) dL_law_39 (by omega) (by omega) (by omega) (by rw [ew]; rfl) (by decide) ?_
        exact lc_20 hf h_i hK hR hB
      · refine g_tsIn (tgt := 1249) (pc := 39) dL_law_39 (by omega) (by omega) (by omega) (by rw [ew]; rfl) (by decide) ?_
        exact lc_21 hf h_i hK hR hB
      · refine g_tsIn (tgt := 1349) (pc := 39) dL_law_39 (by omega) (by omega) (by omega) (by rw [ew]; rfl) (by decide) ?_
        exact lc_22 hf h_i hK hR hB
      · refine g_tsIn (tgt := 1449) (pc := 39) dL_law_39 (by omega) (by omega) (by omega) (by rw [ew]; rfl) (by decide) ?_
        exact lc_23 hf h_i hK hR hB
      · refine g_tsIn (tgt := 1505) (pc := 39) dL_law_39 (by omega) (by omega) (by omega) (by rw [ew]; rfl) (by decide) ?_
        exact lc_24 hf h_i hK hR hB
    · refine g_tsOut (tgt := 1561) (pc := 39) dL_law_39 (by omega) (by omega) (by decide) ?_
      refine G.bud (bc := 2 * (n / 4 - (t + 1))) (bs := 12 * (n / 4 - (t + 1))) ?_ (by omega) (by omega)
      exact hB κ ν o hK hR
set_option maxRecDepth 100000 in
set_option maxHeartbeats 1000000 in
theorem t_L_law {n : Nat} {f : Nat → Int} (hf : ∀ j, -2147483648 ≤ f j ∧ f j < 2147483648) (hn : n ≤ 2048) : G M_L_law (some (n, f)) true false 0 [some (vR SCR), none, none, none, none, none, none] [] [] (88 + 2 * (n / 4)) (5025 + 12 * (n / 4)) LQ := by
  refine G.bud (bc := (87 + 2 * (n / 4)) + 1) (bs := (5019 + 12 * (n / 4)) + 6) ?_ (by omega) (by omega)
  refine g_new (pc := 0) n_L_8 dL_law_0 (Nat.le_of_ble_eq_true rfl) ?_
  refine g_dup (pc := 3) dL_law_3 (fun z h => nomatch h) ?_
  refine G.eqw (w' := [cObj 3 [vN, vN, vN, vN, vN, vN]]) rfl ?_
  refine g_callI (pc := 4) (b := 0) (as := []) (bc' := 78) (bs' := 2607) okI_X3_init rfl l_L_81 dL_law_4 rfl (Nat.le_of_ble_eq_true rfl) (by decide) (Nat.le_of_ble_eq_true rfl) ⟨by omega, by omega⟩ t_X3_init (fun E w' h => nomatch h.1) (fun _ r w' h => by rw [h.2]; rfl) (fun r w' h => ?_)
  obtain ⟨hr9, rfl⟩ := h
  obtain rfl := Sum.inl.inj hr9
  simp only [Option.toList, List.nil_append]
  refine G.bud (bc := (8 + 2 * (n / 4)) + 1) (bs := (2402 + 12 * (n / 4)) + 10) ?_ (by omega) (by omega)
  refine G.eqS (v' := vR 0) rfl ?_
  refine g_astore_n (i := 1) (pc := 7) dL_law_7 rfl (by decide) rfl ?_
  simp only [List.set_cons_succ, List.set_cons_zero]
  refine g_new (pc := 8) n_L_82 dL_law_8 (Nat.le_of_ble_eq_true rfl) ?_
  refine g_dup (pc := 11) dL_law_11 (fun z h => nomatch h) ?_
  refine g_callI (pc := 12) (as := []) (bc' := 7) (bs' := 2401) okI_X4_init rfl l_L_84 dL_law_12 rfl (Nat.le_of_ble_eq_true rfl) (by decide) (Nat.le_of_ble_eq_true rfl) ⟨by omega, by omega⟩ (t_X4_init (w := W79) (Nat.le_of_ble_eq_true rfl)) (fun E w' h => nomatch h.1) (fun _ r w' h => by rw [h.2]; rfl) (fun r w' h => ?_)
  obtain ⟨hr9, rfl⟩ := h
  obtain rfl := Sum.inl.inj hr9
  simp only [Option.toList, List.nil_append]
  refine G.bud (bc := 2 * (n / 4) + 1) (bs := 12 * (n / 4) + 1) ?_ (by omega) (by omega)
  refine G.eqS (v' := vR 79) rfl ?_
  refine g_astore_n (i := 2) (pc := 15) dL_law_15 rfl (by decide) rfl ?_
  simp only [List.set_cons_succ, List.set_cons_zero]
  refine g_iconst (pc := 16) dL_law_16 ?_
  refine g_newL (n := 1) (pc := 17) dL_law_17 (by decide) rfl (by decide) (Nat.le_of_ble_eq_true rfl) ?_
  refine G.eqS (v' := vR 87) rfl ?_
  refine g_astore_n (i := 3) (pc := 19) dL_law_19 rfl (by decide) rfl ?_
  simp only [List.set_cons_succ, List.set_cons_zero]
  refine G.eqw (w' := cW k_00 (dE n_00) (fun _ => 0)) ((List.append_assoc ..).trans W88_eq) ?_
  refine g_iconst (pc := 20) dL_law_20 ?_
  refine g_istore (pc := 21) dL_law_21 (by decide) rfl ?_
  simp only [List.set_cons_succ, List.set_cons_zero]
  exact G.phase (l_loop hf hn 0 (Nat.zero_le _) k_00 n_00 (fun _ => 0) kinv_00 rel_00)
end MZ
