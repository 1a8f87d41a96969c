/-! MEMORY, more of its questions (printed by wip/whole/mem2.py, but for the first row) -/
theorem g_s1 {M Mj : MT} {scr : Option (Nat × (Nat → Int))} {al alE : Bool} {pc : Nat} {L : List (Option MV)} {S : List MV} {w w1 : List MC} {bc bs : Nat} {Q : (Option MV) ⊕ String → List MC → Prop} {idx : Nat} {r0 : Option MV} {x : Int} (hok : g_okS Mj 1) (hh : mH Mj = []) (hlink : Cond.methodLink (mY M).cls idx (mY Mj) ∈ g_WS) (hd : decode (mC M) pc = .ok (.invokestatic idx, 3))
    (hent : 1 ≤ mL Mj) (hroom : mF Mj + 1 ≤ mF M ∧ 8 + (mL Mj + 11) + mO Mj ≤ mO M) (hsz : g_sz S ≤ 8) (hj : GM Mj al [vI x] w 0 0 (dt r0 w1)) (hlen : w1.length = w.length) (kk : G M scr al alE (pc + 3) L (r0.toList ++ S) w1 bc bs Q) : G M scr al alE pc L (vI x :: S) w bc bs Q :=
  g_callS (as := [vI x]) hok hh hlink hd rfl hent hroom hsz ⟨Nat.zero_le _, Nat.zero_le _⟩ hj (fun _ r w' h => by rw [h.2, hlen]; rfl) (fun r w' h => by cases h.1; rw [h.2]; exact kk) (fun E w' h => nomatch h.1)
set_option maxRecDepth 20000 in
set_option maxHeartbeats 4000000 in
theorem t_J6_bitCount_0f7a4 {w : List MC} {N : Nat} {al : Bool} (hN : N < 65536) : GM M_J6_bitCount_0f7a4 al [vI (N : Int)] (w) 0 0 (dt (some (vI (popN N))) w) := by
  have a1 : (N : Int) - b_and (b_ushr N 1) 1431655765 = ((Nat.sub N (Nat.land (Nat.div N 2) 1431655765) : Nat) : Int) := by
    have h := z_ushr (N := N) (k := 1) (by omega) (by decide)
    have h2 := z_andN (a := N / 2 ^ 1) (b := 1431655765) (by omega)
    have h3 : N / 2 ^ 1 &&& 1431655765 ≤ N / 2 ^ 1 := Nat.and_le_left
    show (N : Int) - b_and (b_ushr (N : Int) ((1 : Nat) : Int)) ((1431655765 : Nat) : Int) = ((N - (N / 2 ^ 1 &&& 1431655765) : Nat) : Int)
    rw [h, h2]
    omega
  generalize hA : Nat.sub N (Nat.land (Nat.div N 2) 1431655765) = A at a1
  have lA : A < 65536 := by
    have : A ≤ N := by rw [← hA]; exact Nat.sub_le _ _
    omega
  have a2 : b_and (A : Int) 858993459 + b_and (b_ushr A 2) 858993459 = ((Nat.add (Nat.land A 858993459) (Nat.land (Nat.div A 4) 858993459) : Nat) : Int) := by
    have h := z_ushr (N := A) (k := 2) (by omega) (by decide)
    have h2 := z_andN (a := A / 2 ^ 2) (b := 858993459) (by omega)
    have h3 := z_andN (a := A) (b := 858993459) (by omega)
    show b_and (A : Int) ((858993459 : Nat) : Int) + b_and (b_ushr (A : Int) ((2 : Nat) : Int)) ((858993459 : Nat) : Int) = (((A &&& 858993459) + (A / 2 ^ 2 &&& 858993459) : Nat) : Int)
    rw [h, h2, h3]
    omega
  generalize hB : Nat.add (Nat.land A 858993459) (Nat.land (Nat.div A 4) 858993459) = B at a2
  have lB : B < 131072 := by
    have h1 : A &&& 858993459 ≤ A := Nat.and_le_left
    have h2 : A / 4 &&& 858993459 ≤ A / 4 := Nat.and_le_left
    have h3 : (A &&& 858993459) + (A / 4 &&& 858993459) = B := hB
    omega
  have a3 : b_and ((B : Int) + b_ushr B 4) 252645135 = ((Nat.land (Nat.add B (Nat.div B 16)) 252645135 : Nat) : Int) := by
    have h := z_ushr (N := B) (k := 4) (by omega) (by decide)
    have h2 := z_andN (a := B + B / 2 ^ 4) (b := 252645135) (by omega)
    show b_and ((B : Int) + b_ushr (B : Int) ((4 : Nat) : Int)) ((252645135 : Nat) : Int) = ((B + B / 2 ^ 4 &&& 252645135 : Nat) : Int)
    rw [h, ← h2, Int.natCast_add]
  generalize hC : Nat.land (Nat.add B (Nat.div B 16)) 252645135 = C at a3
  have lC : C < 262144 := by
    have h1 : B + B / 16 &&& 252645135 ≤ B + B / 16 := Nat.and_le_left
    have h3 : B + B / 16 &&& 252645135 = C := hC
    omega
  have a4 : (C : Int) + b_ushr C 8 = ((Nat.add C (Nat.div C 256) : Nat) : Int) := by
    have h := z_ushr (N := C) (k := 8) (by omega) (by decide)
    show (C : Int) + b_ushr (C : Int) ((8 : Nat) : Int) = ((C + C / 2 ^ 8 : Nat) : Int)
    rw [h, Int.natCast_add]
  generalize hD : Nat.add C (Nat.div C 256) = D at a4
  have lD : D < 524288 := by
    have h3 : C + C / 256 = D := hD
    omega
  have a5 : (D : Int) + b_ushr D 16 = ((Nat.add D (Nat.div D 65536) : Nat) : Int) := by
    have h := z_ushr (N := D) (k := 16) (by omega) (by decide)
    show (D : Int) + b_ushr (D : Int) ((16 : Nat) : Int) = ((D + D / 2 ^ 16 : Nat) : Int)
    rw [h, Int.natCast_add]
  generalize hE : Nat.add D (Nat.div D 65536) = E at a5
  have lE : E < 1048576 := by
    have h3 : D + D / 65536 = E := hE
    omega
  have a6 : b_and (E : Int) 63 = ((Nat.land E 63 : Nat) : Int) := z_andN (a := E) (b := 63) (by omega)
  have a7 : Nat.land E 63 = popN N := by
    rw [← bcN_pop N hN, ← hE, ← hD, ← hC, ← hB, ← hA]
    rfl
  rw [a7] at a6
  show G _ none _ _ 0 [some (vI (N : Int))] [] _ _ _ _
  refine g_iload_n (i := 0) (pc := 0) dJ6_bitCount_0f7a4_0 rfl rfl ?_
  refine g_iload_n (i := 0) (pc := 1) dJ6_bitCount_0f7a4_1 rfl rfl ?_
  refine g_iconst (pc := 2) dJ6_bitCount_0f7a4_2 ?_
  refine g_iushr (pc := 3) dJ6_bitCount_0f7a4_3 ?_
  refine g_ldcw (n := 1431655765) (pc := 4) co_J6_265 dJ6_bitCount_0f7a4_4 rfl ?_
  refine g_iand (pc := 7) dJ6_bitCount_0f7a4_7 ?_
  refine g_isub (pc := 8) dJ6_bitCount_0f7a4_8 ?_
  refine G.eqS (congrArg (fun z => vI z) a1) ?_
  refine g_istore_n (i := 0) (pc := 9) dJ6_bitCount_0f7a4_9 rfl (by decide) rfl ?_
  simp only [List.set_cons_succ, List.set_cons_zero]
  refine g_iload_n (i := 0) (pc := 10) dJ6_bitCount_0f7a4_10 rfl rfl ?_
  refine g_ldcw (n := 858993459) (pc := 11) co_J6_266 dJ6_bitCount_0f7a4_11 rfl ?_
  refine g_iand (pc := 14) dJ6_bitCount_0f7a4_14 ?_
  refine g_iload_n (i := 0) (pc := 15) dJ6_bitCount_0f7a4_15 rfl rfl ?_
  refine g_iconst (pc := 16) dJ6_bitCount_0f7a4_16 ?_
  refine g_iushr (pc := 17) dJ6_bitCount_0f7a4_17 ?_
  refine g_ldcw (n := 858993459) (pc := 18) co_J6_266 dJ6_bitCount_0f7a4_18 rfl ?_
  refine g_iand (pc := 21) dJ6_bitCount_0f7a4_21 ?_
  refine g_iadd (pc := 22) dJ6_bitCount_0f7a4_22 ?_
  refine G.eqS (congrArg (fun z => vI z) a2) ?_
  refine g_istore_n (i := 0) (pc := 23) dJ6_bitCount_0f7a4_23 rfl (by decide) rfl ?_
  simp only [List.set_cons_succ, List.set_cons_zero]
  refine g_iload_n (i := 0) (pc := 24) dJ6_bitCount_0f7a4_24 rfl rfl ?_
  refine g_iload_n (i := 0) (pc := 25) dJ6_bitCount_0f7a4_25 rfl rfl ?_
  refine g_iconst (pc := 26) dJ6_bitCount_0f7a4_26 ?_
  refine g_iushr (pc := 27) dJ6_bitCount_0f7a4_27 ?_
  refine g_iadd (pc := 28) dJ6_bitCount_0f7a4_28 ?_
  refine g_ldcw (n := 252645135) (pc := 29) co_J6_267 dJ6_bitCount_0f7a4_29 rfl ?_
  refine g_iand (pc := 32) dJ6_bitCount_0f7a4_32 ?_
  refine G.eqS (congrArg (fun z => vI z) a3) ?_
  refine g_istore_n (i := 0) (pc := 33) dJ6_bitCount_0f7a4_33 rfl (by decide) rfl ?_
  simp only [List.set_cons_succ, List.set_cons_zero]
  refine g_iload_n (i := 0) (pc := 34) dJ6_bitCount_0f7a4_34 rfl rfl ?_
  refine g_iload_n (i := 0) (pc := 35) dJ6_bitCount_0f7a4_35 rfl rfl ?_
  refine g_bipush (pc := 36) dJ6_bitCount_0f7a4_36 (by decide) ?_
  refine g_iushr (pc := 38) dJ6_bitCount_0f7a4_38 ?_
  refine g_iadd (pc := 39) dJ6_bitCount_0f7a4_39 ?_
  refine G.eqS (congrArg (fun z => vI z) a4) ?_
  refine g_istore_n (i := 0) (pc := 40) dJ6_bitCount_0f7a4_40 rfl (by decide) rfl ?_
  simp only [List.set_cons_succ, List.set_cons_zero]
  refine g_iload_n (i := 0) (pc := 41) dJ6_bitCount_0f7a4_41 rfl rfl ?_
  refine g_iload_n (i := 0) (pc := 42) dJ6_bitCount_0f7a4_42 rfl rfl ?_
  refine g_bipush (pc := 43) dJ6_bitCount_0f7a4_43 (by decide) ?_
  refine g_iushr (pc := 45) dJ6_bitCount_0f7a4_45 ?_
  refine g_iadd (pc := 46) dJ6_bitCount_0f7a4_46 ?_
  refine G.eqS (congrArg (fun z => vI z) a5) ?_
  refine g_istore_n (i := 0) (pc := 47) dJ6_bitCount_0f7a4_47 rfl (by decide) rfl ?_
  simp only [List.set_cons_succ, List.set_cons_zero]
  refine g_iload_n (i := 0) (pc := 48) dJ6_bitCount_0f7a4_48 rfl rfl ?_
  refine g_bipush (pc := 49) dJ6_bitCount_0f7a4_49 (by decide) ?_
  refine g_iand (pc := 51) dJ6_bitCount_0f7a4_51 ?_
  refine G.eqS (congrArg (fun z => vI z) a6) ?_
  refine g_iret (pc := 52) rfl dJ6_bitCount_0f7a4_52 (fun h => h) ?_
  exact dt_i rfl rfl
set_option maxRecDepth 20000 in
set_option maxHeartbeats 4000000 in
theorem t_X1_lowestSingleFrame {w : List MC} {a : Nat} {σ : SG} {al : Bool} (hw : okM w a) (hi : Inv σ) : GM M_X1_lowestSingleFrame al [vR a] (setM w a (mem σ)) 0 0 (dt (some (vI (lsf σ))) (setM w a (mem σ))) := by
  show G _ none _ _ 0 [some (vR a), none, none] [] _ _ _ _
  refine g_iconst (pc := 0) dX1_lowestSingleFrame_0 ?_
  refine g_istore_n (i := 1) (pc := 1) dX1_lowestSingleFrame_1 rfl (by decide) rfl ?_
  simp only [List.set_cons_succ, List.set_cons_zero]
  refine g_iconst (pc := 2) dX1_lowestSingleFrame_2 ?_
  refine g_istore_n (i := 2) (pc := 3) dX1_lowestSingleFrame_3 rfl (by decide) rfl ?_
  simp only [List.set_cons_succ, List.set_cons_zero]
  refine lp_up (P := fun k => (∀ j : Nat, j < k → ¬ (decide (uses (s_fr σ) j = 0) && !(rf σ ((j : Int).tdiv 4))) = true) → G M_X1_lowestSingleFrame none al al 4 [some (vR a), some (vI (ff (fun f => decide (uses (s_fr σ) f = 0)) k)), some (vI k)] [] (setM w a (mem σ)) 0 0 (dt (some (vI (lsf σ))) (setM w a (mem σ)))) 32 ?_ ?_ 0 (Nat.zero_le _) (fun i h => absurd h (Nat.not_lt_zero i))
  · intro hH
    refine g_iload_n (i := 2) (pc := 4) dX1_lowestSingleFrame_4 rfl rfl ?_
    refine g_bipush (pc := 5) dX1_lowestSingleFrame_5 (by decide) ?_
    refine g_c_ge (tgt := 44) (pc := 7) dX1_lowestSingleFrame_7 (by omega) (by decide) (fun c7 => ?_) (fun c7 => absurd c7 (by omega))
    refine g_iload_n (i := 1) (pc := 44) dX1_lowestSingleFrame_44 rfl rfl ?_
    refine g_iret (pc := 45) rfl dX1_lowestSingleFrame_45 (fun h => h) ?_
    refine dt_i ?_ rfl
    have h9 : lsf1 σ = -1 := ff_none hH
    unfold lsf
    rw [h9, if_pos rfl]
    rfl
  · intro k hk ih hH
    have y9 := ff_rng (fun f => decide (uses (s_fr σ) f = 0)) k
    refine g_iload_n (i := 2) (pc := 4) dX1_lowestSingleFrame_4 rfl rfl ?_
    refine g_bipush (pc := 5) dX1_lowestSingleFrame_5 (by decide) ?_
    refine g_c_ge (tgt := 44) (pc := 7) dX1_lowestSingleFrame_7 (by omega) (by decide) (fun c7 => absurd c7 (by omega)) (fun c7 => ?_)
    refine g_aload_n (i := 0) (pc := 10) dX1_lowestSingleFrame_10 rfl rfl ?_
    refine g_getf (pc := 11) f_X1_15 dX1_lowestSingleFrame_11 (m_at0 hw) rfl ?_
    refine g_iload_n (i := 2) (pc := 14) dX1_lowestSingleFrame_14 rfl rfl ?_
    refine g_iald (pc := 15) dX1_lowestSingleFrame_15 (m_at2 hw) (by omega) ?_
    have x9 := uses_rng (s_fr σ) k
    have e9 : (mem σ).2.1 ((k : Int)).toNat = uses (s_fr σ) k := by
      show uses (s_fr σ) _ = _
      rw [Int.toNat_of_nonneg (by omega)]
    rw [e9]
    refine g_z_ne (tgt := 38) (pc := 16) dX1_lowestSingleFrame_16 (by omega) (by decide) (fun c16 => ?_) (fun c16 => ?_)
    · skip
      refine g_iinc (pc := 38) dX1_lowestSingleFrame_38 rfl (by decide) rfl ?_
      simp only [List.set_cons_succ, List.set_cons_zero]
      refine g_goto (tgt := 4) (pc := 41) dX1_lowestSingleFrame_41 (by decide) ?_
      refine G.eqL (congrArg (fun z => [some (vR a), some (vI z), some (vI ((k : Int) + 1))]) ?_) (ih (fun j hj => ?_))
      · rw [ff]
        split
        · rw [if_neg (by simp only [decide_eq_true_eq]; exact c16)]; omega
        · rfl
      · rcases Nat.lt_or_ge j k with q | q
        · exact hH j q
        · rw [show j = k by omega, Bool.and_eq_true, decide_eq_true_eq]
          rintro ⟨q1, q2⟩
          exact c16 q1
    · skip
      refine g_aload_n (i := 0) (pc := 19) dX1_lowestSingleFrame_19 rfl rfl ?_
      refine g_iload_n (i := 2) (pc := 20) dX1_lowestSingleFrame_20 rfl rfl ?_
      refine g_iconst (pc := 21) dX1_lowestSingleFrame_21 ?_
      refine g_idiv (pc := 22) dX1_lowestSingleFrame_22 (by omega) (by omega) ?_
      have d9 := Int.tdiv_eq_ediv_of_nonneg (a := (k : Int)) (b := 4) (by omega)
      refine g_v1 (pc := 23) okV_X1_isRunFree rfl l_X1_60 dX1_lowestSingleFrame_23 (m_at0 hw) hc_1 (by decide) (by decide) (Nat.le_of_ble_eq_true rfl) (t_X1_isRunFree hw hi (by omega)) (by simp only [m_len]) ?_
      simp only [Option.toList, List.cons_append, List.nil_append]
      have bb := b2_rng (rf σ ((Int.tdiv (k : Int) 4)))
      refine g_z_ne (tgt := 31) (pc := 26) dX1_lowestSingleFrame_26 (by omega) (by decide) (fun c26 => ?_) (fun c26 => ?_)
      · skip
        refine g_iload_n (i := 1) (pc := 31) dX1_lowestSingleFrame_31 rfl rfl ?_
        refine g_iconst (pc := 32) dX1_lowestSingleFrame_32 ?_
        refine g_c_ne (tgt := 38) (pc := 33) dX1_lowestSingleFrame_33 (by omega) (by decide) (fun c33 => ?_) (fun c33 => ?_)
        · skip
          refine g_iinc (pc := 38) dX1_lowestSingleFrame_38 rfl (by decide) rfl ?_
          simp only [List.set_cons_succ, List.set_cons_zero]
          refine g_goto (tgt := 4) (pc := 41) dX1_lowestSingleFrame_41 (by decide) ?_
          refine G.eqL (congrArg (fun z => [some (vR a), some (vI z), some (vI ((k : Int) + 1))]) ?_) (ih (fun j hj => ?_))
          · rw [ff]
            rw [if_neg c33]
          · rcases Nat.lt_or_ge j k with q | q
            · exact hH j q
            · rw [show j = k by omega, Bool.and_eq_true, decide_eq_true_eq]
              rintro ⟨q1, q2⟩
              rw [b2_1.mp (show b2 (rf σ ((k : Int).tdiv 4)) = 1 by omega)] at q2; cases q2
        · skip
          refine g_iload_n (i := 2) (pc := 36) dX1_lowestSingleFrame_36 rfl rfl ?_
          refine g_istore_n (i := 1) (pc := 37) dX1_lowestSingleFrame_37 rfl (by decide) rfl ?_
          simp only [List.set_cons_succ, List.set_cons_zero]
          refine g_iinc (pc := 38) dX1_lowestSingleFrame_38 rfl (by decide) rfl ?_
          simp only [List.set_cons_succ, List.set_cons_zero]
          refine g_goto (tgt := 4) (pc := 41) dX1_lowestSingleFrame_41 (by decide) ?_
          refine G.eqL (congrArg (fun z => [some (vR a), some (vI z), some (vI ((k : Int) + 1))]) ?_) (ih (fun j hj => ?_))
          · rw [ff]
            rw [if_pos c33, if_pos (by simp only [decide_eq_true_eq]; exact c16)]
          · rcases Nat.lt_or_ge j k with q | q
            · exact hH j q
            · rw [show j = k by omega, Bool.and_eq_true, decide_eq_true_eq]
              rintro ⟨q1, q2⟩
              rw [b2_1.mp (show b2 (rf σ ((k : Int).tdiv 4)) = 1 by omega)] at q2; cases q2
      · skip
        refine g_iload_n (i := 2) (pc := 29) dX1_lowestSingleFrame_29 rfl rfl ?_
        refine g_iret (pc := 30) rfl dX1_lowestSingleFrame_30 (fun h => h) ?_
        refine dt_i ?_ rfl
        have h9 : lsf1 σ = k := ff_some (by rw [Bool.and_eq_true, decide_eq_true_eq]; exact ⟨c16, by rw [Bool.not_eq_true', Bool.eq_false_iff]; exact b2_0.mp c26⟩) hH hk
        unfold lsf
        rw [h9, if_neg (by omega)]
set_option maxRecDepth 20000 in
set_option maxHeartbeats 4000000 in
theorem t_X1_bigGroupsInRun {w : List MC} {a : Nat} {σ : SG} {al : Bool} (hw : okM w a) (hi : Inv σ) {r : Int} (h_r : -2147483648 ≤ r ∧ r < 2147483648) : GM M_X1_bigGroupsInRun al [vR a, vI r] (setM w a (mem σ)) 0 0 (dt (some (vI (brun σ r))) (setM w a (mem σ))) := by
  show G _ none _ _ 0 [some (vR a), some (vI r), none, none, none] [] _ _ _ _
  refine g_iconst (pc := 0) dX1_bigGroupsInRun_0 ?_
  refine g_istore_n (i := 2) (pc := 1) dX1_bigGroupsInRun_1 rfl (by decide) rfl ?_
  simp only [List.set_cons_succ, List.set_cons_zero]
  refine g_iconst (pc := 2) dX1_bigGroupsInRun_2 ?_
  refine g_istore_n (i := 3) (pc := 3) dX1_bigGroupsInRun_3 rfl (by decide) rfl ?_
  simp only [List.set_cons_succ, List.set_cons_zero]
  refine lp_up (P := fun k => G M_X1_bigGroupsInRun none al al 4 [some (vR a), some (vI r), some (vI (ct (fun i => decide (ro σ ((i / 4 : Nat) : Int) ((i % 4 : Nat) : Int) = r)) (4 * k))), some (vI k), none] [] (setM w a (mem σ)) 0 0 (dt (some (vI (brun σ r))) (setM w a (mem σ)))) 4 ?_ ?_ 0 (Nat.zero_le _)
  · show G _ _ _ _ _ _ _ _ _ _ _
    refine g_iload_n (i := 3) (pc := 4) dX1_bigGroupsInRun_4 rfl rfl ?_
    refine g_iconst (pc := 5) dX1_bigGroupsInRun_5 ?_
    refine g_c_ge (tgt := 44) (pc := 6) dX1_bigGroupsInRun_6 (by omega) (by decide) (fun c6 => ?_) (fun c6 => absurd c6 (by omega))
    refine g_iload_n (i := 2) (pc := 44) dX1_bigGroupsInRun_44 rfl rfl ?_
    refine g_iret (pc := 45) rfl dX1_bigGroupsInRun_45 (fun h => h) ?_
    exact dt_i rfl rfl
  · intro k hk ih
    show G _ _ _ _ _ _ _ _ _ _ _
    refine g_iload_n (i := 3) (pc := 4) dX1_bigGroupsInRun_4 rfl rfl ?_
    refine g_iconst (pc := 5) dX1_bigGroupsInRun_5 ?_
    refine g_c_ge (tgt := 44) (pc := 6) dX1_bigGroupsInRun_6 (by omega) (by decide) (fun c6 => absurd c6 (by omega)) (fun c6 => ?_)
    refine g_iconst (pc := 9) dX1_bigGroupsInRun_9 ?_
    refine g_istore (pc := 10) dX1_bigGroupsInRun_10 (by decide) rfl ?_
    simp only [List.set_cons_succ, List.set_cons_zero]
    refine lp_up (P := fun j => G M_X1_bigGroupsInRun none al al 12 [some (vR a), some (vI r), some (vI (ct (fun i => decide (ro σ ((i / 4 : Nat) : Int) ((i % 4 : Nat) : Int) = r)) (4 * k + j))), some (vI k), some (vI j)] [] (setM w a (mem σ)) 0 0 (dt (some (vI (brun σ r))) (setM w a (mem σ)))) 4 ?_ ?_ 0 (Nat.zero_le _)
    · show G _ _ _ _ _ _ _ _ _ _ _
      refine g_iload (pc := 12) dX1_bigGroupsInRun_12 rfl ?_
      refine g_iconst (pc := 14) dX1_bigGroupsInRun_14 ?_
      refine g_c_ge (tgt := 38) (pc := 15) dX1_bigGroupsInRun_15 (by omega) (by decide) (fun c15 => ?_) (fun c15 => absurd c15 (by omega))
      refine g_iinc (pc := 38) dX1_bigGroupsInRun_38 rfl (by decide) rfl ?_
      simp only [List.set_cons_succ, List.set_cons_zero]
      refine g_goto (tgt := 4) (pc := 41) dX1_bigGroupsInRun_41 (by decide) ?_
      refine G.drop 4 ?_
      simp only [List.set_cons_succ, List.set_cons_zero]
      exact ih
    · intro j hj ih2
      show G _ _ _ _ _ _ _ _ _ _ _
      refine g_iload (pc := 12) dX1_bigGroupsInRun_12 rfl ?_
      refine g_iconst (pc := 14) dX1_bigGroupsInRun_14 ?_
      refine g_c_ge (tgt := 38) (pc := 15) dX1_bigGroupsInRun_15 (by omega) (by decide) (fun c15 => absurd c15 (by omega)) (fun c15 => ?_)
      refine g_aload_n (i := 0) (pc := 18) dX1_bigGroupsInRun_18 rfl rfl ?_
      refine g_iload_n (i := 3) (pc := 19) dX1_bigGroupsInRun_19 rfl rfl ?_
      refine g_iload (pc := 20) dX1_bigGroupsInRun_20 rfl ?_
      refine g_v2 (pc := 22) okV_X1_runOf rfl l_X1_83 dX1_bigGroupsInRun_22 (m_at0 hw) hc_1 (by decide) (by decide) (Nat.le_of_ble_eq_true rfl) (t_X1_runOf hw hi (by omega) (by omega)) (by simp only [m_len]) ?_
      simp only [Option.toList, List.cons_append, List.nil_append]
      have bb := ro_rng hi ((k : Int)) ((j : Int))
      refine g_iload_n (i := 1) (pc := 25) dX1_bigGroupsInRun_25 rfl rfl ?_
      refine g_c_ne (tgt := 32) (pc := 26) dX1_bigGroupsInRun_26 (by omega) (by decide) (fun c26 => ?_) (fun c26 => ?_)
      · skip
        refine g_iinc (pc := 32) dX1_bigGroupsInRun_32 rfl (by decide) rfl ?_
        simp only [List.set_cons_succ, List.set_cons_zero]
        refine g_goto (tgt := 12) (pc := 35) dX1_bigGroupsInRun_35 (by decide) ?_
        refine G.eqL (congrArg (fun z => [some (vR a), some (vI r), some (vI (z)), some (vI k), some (vI ((j : Int) + 1))]) ?_) ih2
        exact (ct_no (by rw [show (4 * k + j) / 4 = k by omega, show (4 * k + j) % 4 = j by omega]; simp only [decide_eq_true_eq]; omega)).symm
      · skip
        refine g_iinc (pc := 29) dX1_bigGroupsInRun_29 rfl (by decide) rfl ?_
        simp only [List.set_cons_succ, List.set_cons_zero]
        refine g_iinc (pc := 32) dX1_bigGroupsInRun_32 rfl (by decide) rfl ?_
        simp only [List.set_cons_succ, List.set_cons_zero]
        refine g_goto (tgt := 12) (pc := 35) dX1_bigGroupsInRun_35 (by decide) ?_
        refine G.eqL (congrArg (fun z => [some (vR a), some (vI r), some (vI (z)), some (vI k), some (vI ((j : Int) + 1))]) ?_) ih2
        exact (ct_yes (by rw [show (4 * k + j) / 4 = k by omega, show (4 * k + j) % 4 = j by omega]; simp only [decide_eq_true_eq]; omega)).symm
set_option maxRecDepth 20000 in
set_option maxHeartbeats 4000000 in
theorem t_X1_isWidow {w : List MC} {a : Nat} {σ : SG} {al : Bool} (hw : okM w a) (hi : Inv σ) {p g : Int} (h_p : -2147483648 ≤ p ∧ p < 2147483648) (h_g : -536860000 ≤ g ∧ g < 536860000) : GM M_X1_isWidow al [vR a, vI p, vI g] (setM w a (mem σ)) 0 0 (dt (some (vI (b2 (wid σ p g)))) (setM w a (mem σ))) := by
  show G _ none _ _ 0 [some (vR a), some (vI p), some (vI g)] [] _ _ _ _
  refine g_aload_n (i := 0) (pc := 0) dX1_isWidow_0 rfl rfl ?_
  refine g_iload_n (i := 1) (pc := 1) dX1_isWidow_1 rfl rfl ?_
  refine g_iload_n (i := 2) (pc := 2) dX1_isWidow_2 rfl rfl ?_
  refine g_v2 (pc := 3) okV_X1_isBig rfl l_X1_77 dX1_isWidow_3 (m_at0 hw) hc_1 (by decide) (by decide) (Nat.le_of_ble_eq_true rfl) (t_X1_isBig hw hi (by omega) (by omega)) (by simp only [m_len]) ?_
  simp only [Option.toList, List.cons_append, List.nil_append]
  have bb := b2_rng (big σ (p) (g))
  refine g_z_eq (tgt := 36) (pc := 6) dX1_isWidow_6 (by omega) (by decide) (fun c6 => ?_) (fun c6 => ?_)
  · skip
    refine g_iconst (pc := 36) dX1_isWidow_36 ?_
    refine g_zret (pc := 37) rfl dX1_isWidow_37 (by omega) (fun h => h) ?_
    first
    | exact dt_i (b2_t (by simp only [wid, Bool.and_eq_true, decide_eq_true_eq]; exact ⟨⟨b2_1.mp (by omega), by omega⟩, by omega⟩)).symm rfl
    | exact dt_i (b2_f (by simp only [wid, Bool.and_eq_true, decide_eq_true_eq]; rintro ⟨⟨q1, q2⟩, q3⟩; have q4 := b2_1.mpr q1; omega)).symm rfl
  · skip
    refine g_aload_n (i := 0) (pc := 9) dX1_isWidow_9 rfl rfl ?_
    refine g_iload_n (i := 1) (pc := 10) dX1_isWidow_10 rfl rfl ?_
    refine g_iload_n (i := 2) (pc := 11) dX1_isWidow_11 rfl rfl ?_
    refine g_v2 (pc := 12) okV_X1_pagesWithSharedFrame rfl l_X1_80 dX1_isWidow_12 (m_at0 hw) hc_1 (by decide) (by decide) (Nat.le_of_ble_eq_true rfl) (t_X1_pagesWithSharedFrame hw hi (by omega) (by omega)) (by simp only [m_len]) ?_
    simp only [Option.toList, List.cons_append, List.nil_append]
    have bb := ps_rng σ (p) (g)
    refine g_z_le (tgt := 36) (pc := 15) dX1_isWidow_15 (by omega) (by decide) (fun c15 => ?_) (fun c15 => ?_)
    · skip
      refine g_iconst (pc := 36) dX1_isWidow_36 ?_
      refine g_zret (pc := 37) rfl dX1_isWidow_37 (by omega) (fun h => h) ?_
      first
      | exact dt_i (b2_t (by simp only [wid, Bool.and_eq_true, decide_eq_true_eq]; exact ⟨⟨b2_1.mp (by omega), by omega⟩, by omega⟩)).symm rfl
      | exact dt_i (b2_f (by simp only [wid, Bool.and_eq_true, decide_eq_true_eq]; rintro ⟨⟨q1, q2⟩, q3⟩; have q4 := b2_1.mpr q1; omega)).symm rfl
    · skip
      refine g_aload_n (i := 0) (pc := 18) dX1_isWidow_18 rfl rfl ?_
      refine g_aload_n (i := 0) (pc := 19) dX1_isWidow_19 rfl rfl ?_
      refine g_iload_n (i := 1) (pc := 20) dX1_isWidow_20 rfl rfl ?_
      refine g_iload_n (i := 2) (pc := 21) dX1_isWidow_21 rfl rfl ?_
      refine g_v2 (pc := 22) okV_X1_runOf rfl l_X1_83 dX1_isWidow_22 (m_at0 hw) hc_1 (by decide) (by decide) (Nat.le_of_ble_eq_true rfl) (t_X1_runOf hw hi (by omega) (by omega)) (by simp only [m_len]) ?_
      simp only [Option.toList, List.cons_append, List.nil_append]
      have bb := ro_rng hi (p) (g)
      refine g_v1 (pc := 25) okV_X1_bigGroupsInRun rfl l_X1_86 dX1_isWidow_25 (m_at0 hw) hc_1 (by decide) (by decide) (Nat.le_of_ble_eq_true rfl) (t_X1_bigGroupsInRun hw hi (by omega)) (by simp only [m_len]) ?_
      simp only [Option.toList, List.cons_append, List.nil_append]
      have bb := brun_rng σ ((ro σ (p) (g)))
      refine g_iconst (pc := 28) dX1_isWidow_28 ?_
      refine g_c_ne (tgt := 36) (pc := 29) dX1_isWidow_29 (by omega) (by decide) (fun c29 => ?_) (fun c29 => ?_)
      · skip
        refine g_iconst (pc := 36) dX1_isWidow_36 ?_
        refine g_zret (pc := 37) rfl dX1_isWidow_37 (by omega) (fun h => h) ?_
        first
        | exact dt_i (b2_t (by simp only [wid, Bool.and_eq_true, decide_eq_true_eq]; exact ⟨⟨b2_1.mp (by omega), by omega⟩, by omega⟩)).symm rfl
        | exact dt_i (b2_f (by simp only [wid, Bool.and_eq_true, decide_eq_true_eq]; rintro ⟨⟨q1, q2⟩, q3⟩; have q4 := b2_1.mpr q1; omega)).symm rfl
      · skip
        refine g_iconst (pc := 32) dX1_isWidow_32 ?_
        refine g_goto (tgt := 37) (pc := 33) dX1_isWidow_33 (by decide) ?_
        refine g_zret (pc := 37) rfl dX1_isWidow_37 (by omega) (fun h => h) ?_
        first
        | exact dt_i (b2_t (by simp only [wid, Bool.and_eq_true, decide_eq_true_eq]; exact ⟨⟨b2_1.mp (by omega), by omega⟩, by omega⟩)).symm rfl
        | exact dt_i (b2_f (by simp only [wid, Bool.and_eq_true, decide_eq_true_eq]; rintro ⟨⟨q1, q2⟩, q3⟩; have q4 := b2_1.mpr q1; omega)).symm rfl
set_option maxRecDepth 20000 in
set_option maxHeartbeats 4000000 in
theorem t_X1_widows {w : List MC} {a : Nat} {σ : SG} {al : Bool} (hw : okM w a) (hi : Inv σ) : GM M_X1_widows al [vR a] (setM w a (mem σ)) 0 0 (dt (some (vI (nwid σ))) (setM w a (mem σ))) := by
  show G _ none _ _ 0 [some (vR a), none, none, none] [] _ _ _ _
  refine g_iconst (pc := 0) dX1_widows_0 ?_
  refine g_istore_n (i := 1) (pc := 1) dX1_widows_1 rfl (by decide) rfl ?_
  simp only [List.set_cons_succ, List.set_cons_zero]
  refine g_iconst (pc := 2) dX1_widows_2 ?_
  refine g_istore_n (i := 2) (pc := 3) dX1_widows_3 rfl (by decide) rfl ?_
  simp only [List.set_cons_succ, List.set_cons_zero]
  refine lp_up (P := fun k => G M_X1_widows none al al 4 [some (vR a), some (vI (ct (fun i => wid σ ((i / 4 : Nat) : Int) ((i % 4 : Nat) : Int)) (4 * k))), some (vI k), none] [] (setM w a (mem σ)) 0 0 (dt (some (vI (nwid σ))) (setM w a (mem σ)))) 4 ?_ ?_ 0 (Nat.zero_le _)
  · show G _ _ _ _ _ _ _ _ _ _ _
    refine g_iload_n (i := 2) (pc := 4) dX1_widows_4 rfl rfl ?_
    refine g_iconst (pc := 5) dX1_widows_5 ?_
    refine g_c_ge (tgt := 40) (pc := 6) dX1_widows_6 (by omega) (by decide) (fun c6 => ?_) (fun c6 => absurd c6 (by omega))
    refine g_iload_n (i := 1) (pc := 40) dX1_widows_40 rfl rfl ?_
    refine g_iret (pc := 41) rfl dX1_widows_41 (fun h => h) ?_
    exact dt_i rfl rfl
  · intro k hk ih
    show G _ _ _ _ _ _ _ _ _ _ _
    refine g_iload_n (i := 2) (pc := 4) dX1_widows_4 rfl rfl ?_
    refine g_iconst (pc := 5) dX1_widows_5 ?_
    refine g_c_ge (tgt := 40) (pc := 6) dX1_widows_6 (by omega) (by decide) (fun c6 => absurd c6 (by omega)) (fun c6 => ?_)
    refine g_iconst (pc := 9) dX1_widows_9 ?_
    refine g_istore_n (i := 3) (pc := 10) dX1_widows_10 rfl (by decide) rfl ?_
    simp only [List.set_cons_succ, List.set_cons_zero]
    refine lp_up (P := fun j => G M_X1_widows none al al 11 [some (vR a), some (vI (ct (fun i => wid σ ((i / 4 : Nat) : Int) ((i % 4 : Nat) : Int)) (4 * k + j))), some (vI k), some (vI j)] [] (setM w a (mem σ)) 0 0 (dt (some (vI (nwid σ))) (setM w a (mem σ)))) 4 ?_ ?_ 0 (Nat.zero_le _)
    · show G _ _ _ _ _ _ _ _ _ _ _
      refine g_iload_n (i := 3) (pc := 11) dX1_widows_11 rfl rfl ?_
      refine g_iconst (pc := 12) dX1_widows_12 ?_
      refine g_c_ge (tgt := 34) (pc := 13) dX1_widows_13 (by omega) (by decide) (fun c13 => ?_) (fun c13 => absurd c13 (by omega))
      refine g_iinc (pc := 34) dX1_widows_34 rfl (by decide) rfl ?_
      simp only [List.set_cons_succ, List.set_cons_zero]
      refine g_goto (tgt := 4) (pc := 37) dX1_widows_37 (by decide) ?_
      refine G.drop 3 ?_
      simp only [List.set_cons_succ, List.set_cons_zero]
      exact ih
    · intro j hj ih2
      show G _ _ _ _ _ _ _ _ _ _ _
      refine g_iload_n (i := 3) (pc := 11) dX1_widows_11 rfl rfl ?_
      refine g_iconst (pc := 12) dX1_widows_12 ?_
      refine g_c_ge (tgt := 34) (pc := 13) dX1_widows_13 (by omega) (by decide) (fun c13 => absurd c13 (by omega)) (fun c13 => ?_)
      refine g_aload_n (i := 0) (pc := 16) dX1_widows_16 rfl rfl ?_
      refine g_iload_n (i := 2) (pc := 17) dX1_widows_17 rfl rfl ?_
      refine g_iload_n (i := 3) (pc := 18) dX1_widows_18 rfl rfl ?_
      refine g_v2 (pc := 19) okV_X1_isWidow rfl l_X1_69 dX1_widows_19 (m_at0 hw) hc_1 (by decide) (by decide) (Nat.le_of_ble_eq_true rfl) (t_X1_isWidow hw hi (by omega) (by omega)) (by simp only [m_len]) ?_
      simp only [Option.toList, List.cons_append, List.nil_append]
      have bb := b2_rng (wid σ ((k : Int)) ((j : Int)))
      refine g_z_eq (tgt := 28) (pc := 22) dX1_widows_22 (by omega) (by decide) (fun c22 => ?_) (fun c22 => ?_)
      · skip
        refine g_iinc (pc := 28) dX1_widows_28 rfl (by decide) rfl ?_
        simp only [List.set_cons_succ, List.set_cons_zero]
        refine g_goto (tgt := 11) (pc := 31) dX1_widows_31 (by decide) ?_
        refine G.eqL (congrArg (fun z => [some (vR a), some (vI (z)), some (vI k), some (vI ((j : Int) + 1))]) ?_) ih2
        exact (ct_no (by rw [show (4 * k + j) / 4 = k by omega, show (4 * k + j) % 4 = j by omega]; exact b2_0.mp (by omega))).symm
      · skip
        refine g_iinc (pc := 25) dX1_widows_25 rfl (by decide) rfl ?_
        simp only [List.set_cons_succ, List.set_cons_zero]
        refine g_iinc (pc := 28) dX1_widows_28 rfl (by decide) rfl ?_
        simp only [List.set_cons_succ, List.set_cons_zero]
        refine g_goto (tgt := 11) (pc := 31) dX1_widows_31 (by decide) ?_
        refine G.eqL (congrArg (fun z => [some (vR a), some (vI (z)), some (vI k), some (vI ((j : Int) + 1))]) ?_) ih2
        exact (ct_yes (by rw [show (4 * k + j) / 4 = k by omega, show (4 * k + j) % 4 = j by omega]; exact b2_1.mp (by omega))).symm
set_option maxRecDepth 20000 in
set_option maxHeartbeats 4000000 in
theorem t_X1_userAt {w : List MC} {a : Nat} {σ : SG} {al : Bool} (hw : okM w a) (hi : Inv σ) {f n : Int} (h_f : 0 ≤ f ∧ f < 32) (h_n : 0 ≤ n ∧ n < 2147483648) : GM M_X1_userAt al [vR a, vI f, vI n] (setM w a (mem σ)) 0 0 (dt (some (vI (uat σ f n))) (setM w a (mem σ))) := by
  show G _ none _ _ 0 [some (vR a), some (vI f), some (vI n), none, none, none] [] _ _ _ _
  refine g_iconst (pc := 0) dX1_userAt_0 ?_
  refine g_istore_n (i := 3) (pc := 1) dX1_userAt_1 rfl (by decide) rfl ?_
  simp only [List.set_cons_succ, List.set_cons_zero]
  refine g_iconst (pc := 2) dX1_userAt_2 ?_
  refine g_istore (pc := 3) dX1_userAt_3 (by decide) rfl ?_
  simp only [List.set_cons_succ, List.set_cons_zero]
  refine lp_up (P := fun k => (∀ i : Nat, i < 16 * k → ¬ (decide (s_fr σ i = f) && decide (ct (fun j => decide (s_fr σ j = f)) i = n)) = true) → G M_X1_userAt none al al 5 [some (vR a), some (vI f), some (vI n), some (vI (ct (fun j => decide (s_fr σ j = f)) (16 * k))), some (vI k), none] [] (setM w a (mem σ)) 0 0 (dt (some (vI (uat σ f n))) (setM w a (mem σ)))) 4 ?_ ?_ 0 (Nat.zero_le _) (fun i h => absurd h (by omega))
  · intro hH
    refine g_iload (pc := 5) dX1_userAt_5 rfl ?_
    refine g_iconst (pc := 7) dX1_userAt_7 ?_
    refine g_c_ge (tgt := 62) (pc := 8) dX1_userAt_8 (by omega) (by decide) (fun c8 => ?_) (fun c8 => absurd c8 (by omega))
    refine g_iconst (pc := 62) dX1_userAt_62 ?_
    refine g_iret (pc := 63) rfl dX1_userAt_63 (fun h => h) ?_
    refine dt_i ?_ rfl
    have h9 : ff (fun k => decide (s_fr σ k = f) && decide (ct (fun j => decide (s_fr σ j = f)) k = n)) 64 = -1 := ff_none hH
    unfold uat
    simp only [h9]
    rfl
  · intro k hk ih hH
    refine g_iload (pc := 5) dX1_userAt_5 rfl ?_
    refine g_iconst (pc := 7) dX1_userAt_7 ?_
    refine g_c_ge (tgt := 62) (pc := 8) dX1_userAt_8 (by omega) (by decide) (fun c8 => absurd c8 (by omega)) (fun c8 => ?_)
    refine g_iconst (pc := 11) dX1_userAt_11 ?_
    refine g_istore (pc := 12) dX1_userAt_12 (by decide) rfl ?_
    simp only [List.set_cons_succ, List.set_cons_zero]
    refine lp_up (P := fun j => (∀ i : Nat, i < 16 * k + j → ¬ (decide (s_fr σ i = f) && decide (ct (fun j => decide (s_fr σ j = f)) i = n)) = true) → G M_X1_userAt none al al 14 [some (vR a), some (vI f), some (vI n), some (vI (ct (fun j => decide (s_fr σ j = f)) (16 * k + j))), some (vI k), some (vI j)] [] (setM w a (mem σ)) 0 0 (dt (some (vI (uat σ f n))) (setM w a (mem σ)))) 16 ?_ ?_ 0 (Nat.zero_le _) hH
    · intro hG
      refine g_iload (pc := 14) dX1_userAt_14 rfl ?_
      refine g_bipush (pc := 16) dX1_userAt_16 (by decide) ?_
      refine g_c_ge (tgt := 56) (pc := 18) dX1_userAt_18 (by omega) (by decide) (fun c18 => ?_) (fun c18 => absurd c18 (by omega))
      refine g_iinc (pc := 56) dX1_userAt_56 rfl (by decide) rfl ?_
      simp only [List.set_cons_succ, List.set_cons_zero]
      refine g_goto (tgt := 5) (pc := 59) dX1_userAt_59 (by decide) ?_
      refine G.drop 5 ?_
      simp only [List.set_cons_succ, List.set_cons_zero]
      exact ih hG
    · intro j hj ih2 hG
      have y9 := ct_rng (fun j => decide (s_fr σ j = f)) (16 * k + j)
      refine g_iload (pc := 14) dX1_userAt_14 rfl ?_
      refine g_bipush (pc := 16) dX1_userAt_16 (by decide) ?_
      refine g_c_ge (tgt := 56) (pc := 18) dX1_userAt_18 (by omega) (by decide) (fun c18 => absurd c18 (by omega)) (fun c18 => ?_)
      refine g_aload_n (i := 0) (pc := 21) dX1_userAt_21 rfl rfl ?_
      refine g_iload (pc := 22) dX1_userAt_22 rfl ?_
      refine g_iload (pc := 24) dX1_userAt_24 rfl ?_
      refine g_v2 (pc := 26) okV_X1_frameOf rfl l_X1_73 dX1_userAt_26 (m_at0 hw) hc_1 (by decide) (by decide) (Nat.le_of_ble_eq_true rfl) (t_X1_frameOf hw hi (by omega) (by omega)) (by simp only [m_len]) ?_
      simp only [Option.toList, List.cons_append, List.nil_append]
      have bb := fo_rng hi ((k : Int)) ((j : Int))
      have e9 : fo σ k j = s_fr σ (16 * k + j) := by
        unfold fo
        rw [if_pos (by omega), show ((16 : Int) * k + j).toNat = 16 * k + j by omega]
      refine g_iload_n (i := 1) (pc := 29) dX1_userAt_29 rfl rfl ?_
      refine g_c_ne (tgt := 50) (pc := 30) dX1_userAt_30 (by omega) (by decide) (fun c30 => ?_) (fun c30 => ?_)
      · skip
        refine g_iinc (pc := 50) dX1_userAt_50 rfl (by decide) rfl ?_
        simp only [List.set_cons_succ, List.set_cons_zero]
        refine g_goto (tgt := 14) (pc := 53) dX1_userAt_53 (by decide) ?_
        refine G.eqL (congrArg (fun z => [some (vR a), some (vI f), some (vI n), some (vI z), some (vI k), some (vI ((j : Int) + 1))]) ?_) (ih2 (fun i hi9 => ?_))
        · exact (ct_no (by simp only [decide_eq_true_eq]; omega)).symm
        · rcases Nat.lt_or_ge i (16 * k + j) with q | q
          · exact hG i q
          · rw [show i = 16 * k + j by omega, Bool.and_eq_true, decide_eq_true_eq, decide_eq_true_eq]
            rintro ⟨q1, q2⟩
            omega
      · skip
        refine g_iload_n (i := 3) (pc := 33) dX1_userAt_33 rfl rfl ?_
        refine g_iload_n (i := 2) (pc := 34) dX1_userAt_34 rfl rfl ?_
        refine g_c_ne (tgt := 47) (pc := 35) dX1_userAt_35 (by omega) (by decide) (fun c35 => ?_) (fun c35 => ?_)
        · skip
          refine g_iinc (pc := 47) dX1_userAt_47 rfl (by decide) rfl ?_
          simp only [List.set_cons_succ, List.set_cons_zero]
          refine g_iinc (pc := 50) dX1_userAt_50 rfl (by decide) rfl ?_
          simp only [List.set_cons_succ, List.set_cons_zero]
          refine g_goto (tgt := 14) (pc := 53) dX1_userAt_53 (by decide) ?_
          refine G.eqL (congrArg (fun z => [some (vR a), some (vI f), some (vI n), some (vI z), some (vI k), some (vI ((j : Int) + 1))]) ?_) (ih2 (fun i hi9 => ?_))
          · exact (ct_yes (by simp only [decide_eq_true_eq]; omega)).symm
          · rcases Nat.lt_or_ge i (16 * k + j) with q | q
            · exact hG i q
            · rw [show i = 16 * k + j by omega, Bool.and_eq_true, decide_eq_true_eq, decide_eq_true_eq]
              rintro ⟨q1, q2⟩
              omega
        · skip
          refine g_bipush (pc := 38) dX1_userAt_38 (by decide) ?_
          refine g_iload (pc := 40) dX1_userAt_40 rfl ?_
          refine g_imul (pc := 42) dX1_userAt_42 ?_
          refine g_iload (pc := 43) dX1_userAt_43 rfl ?_
          refine g_iadd (pc := 45) dX1_userAt_45 ?_
          refine g_iret (pc := 46) rfl dX1_userAt_46 (fun h => h) ?_
          refine dt_i ?_ rfl
          have h9 : ff (fun k => decide (s_fr σ k = f) && decide (ct (fun j => decide (s_fr σ j = f)) k = n)) 64 = ((16 * k + j : Nat) : Int) := ff_some (by rw [Bool.and_eq_true, decide_eq_true_eq, decide_eq_true_eq]; omega) hG (by omega)
          unfold uat
          simp only [h9]
          rw [if_neg (by omega)]
          omega
set_option maxRecDepth 20000 in
set_option maxHeartbeats 4000000 in
theorem t_X1_outcomeOfWrite {w : List MC} {a : Nat} {σ : SG} {al : Bool} (hw : okM w a) (hi : Inv σ) {p v : Int} (h_p : -2147483648 ≤ p ∧ p < 2147483648) (h_v : -2147483648 ≤ v ∧ v < 2147483648) : GM M_X1_outcomeOfWrite al [vR a, vI p, vI v] (setM w a (mem σ)) 0 0 (dt (some (vI (oc σ p v))) (setM w a (mem σ))) := by
  show G _ none _ _ 0 [some (vR a), some (vI p), some (vI v), none] [] _ _ _ _
  refine g_aload_n (i := 0) (pc := 0) dX1_outcomeOfWrite_0 rfl rfl ?_
  refine g_iload_n (i := 1) (pc := 1) dX1_outcomeOfWrite_1 rfl rfl ?_
  refine g_iload_n (i := 2) (pc := 2) dX1_outcomeOfWrite_2 rfl rfl ?_
  refine g_v2 (pc := 3) okV_X1_hasPage rfl l_X1_96 dX1_outcomeOfWrite_3 (m_at0 hw) hc_1 (by decide) (by decide) (Nat.le_of_ble_eq_true rfl) (t_X1_hasPage hw hi (by omega) (by omega)) (by simp only [m_len]) ?_
  simp only [Option.toList, List.cons_append, List.nil_append]
  have bb := b2_rng (hasPg σ (p) (v))
  refine g_z_ne (tgt := 11) (pc := 6) dX1_outcomeOfWrite_6 (by omega) (by decide) (fun c6 => ?_) (fun c6 => ?_)
  · skip
    refine g_aload_n (i := 0) (pc := 11) dX1_outcomeOfWrite_11 rfl rfl ?_
    refine g_iload_n (i := 1) (pc := 12) dX1_outcomeOfWrite_12 rfl rfl ?_
    refine g_iload_n (i := 2) (pc := 13) dX1_outcomeOfWrite_13 rfl rfl ?_
    refine g_v2 (pc := 14) okV_X1_frameOf rfl l_X1_73 dX1_outcomeOfWrite_14 (m_at0 hw) hc_1 (by decide) (by decide) (Nat.le_of_ble_eq_true rfl) (t_X1_frameOf hw hi (by omega) (by omega)) (by simp only [m_len]) ?_
    simp only [Option.toList, List.cons_append, List.nil_append]
    have bb := fo_rng hi (p) (v)
    refine g_istore_n (i := 3) (pc := 17) dX1_outcomeOfWrite_17 rfl (by decide) rfl ?_
    simp only [List.set_cons_succ, List.set_cons_zero]
    refine g_iload_n (i := 3) (pc := 18) dX1_outcomeOfWrite_18 rfl rfl ?_
    refine g_iconst (pc := 19) dX1_outcomeOfWrite_19 ?_
    refine g_c_eq (tgt := 33) (pc := 20) dX1_outcomeOfWrite_20 (by omega) (by decide) (fun c20 => ?_) (fun c20 => ?_)
    · skip
      refine g_aload_n (i := 0) (pc := 33) dX1_outcomeOfWrite_33 rfl rfl ?_
      refine g_v0 (pc := 34) okV_X1_freeFrames rfl l_X1_99 dX1_outcomeOfWrite_34 (m_at0 hw) hc_1 (by decide) (by decide) (Nat.le_of_ble_eq_true rfl) (t_X1_freeFrames hw hi) (by simp only [m_len]) ?_
      simp only [Option.toList, List.cons_append, List.nil_append]
      have bb := nff_rng σ
      refine g_z_ne (tgt := 42) (pc := 37) dX1_outcomeOfWrite_37 (by omega) (by decide) (fun c37 => ?_) (fun c37 => ?_)
      · skip
        refine g_iload_n (i := 3) (pc := 42) dX1_outcomeOfWrite_42 rfl rfl ?_
        refine g_iconst (pc := 43) dX1_outcomeOfWrite_43 ?_
        refine g_c_ne (tgt := 49) (pc := 44) dX1_outcomeOfWrite_44 (by omega) (by decide) (fun c44 => ?_) (fun c44 => ?_)
        · skip
          refine g_aload_n (i := 0) (pc := 49) dX1_outcomeOfWrite_49 rfl rfl ?_
          refine g_iload_n (i := 1) (pc := 50) dX1_outcomeOfWrite_50 rfl rfl ?_
          refine g_iload_n (i := 2) (pc := 51) dX1_outcomeOfWrite_51 rfl rfl ?_
          refine g_iconst (pc := 52) dX1_outcomeOfWrite_52 ?_
          refine g_idiv (pc := 53) dX1_outcomeOfWrite_53 (by omega) (by omega) ?_
          have hv9 : 0 ≤ v ∧ v < 16 := by
            have hpg := b2_1.mp (show b2 (hasPg σ p v) = 1 by omega)
            rw [hasPg, Bool.and_eq_true, decide_eq_true_eq] at hpg
            exact hpg.2
          have d9 := Int.tdiv_eq_ediv_of_nonneg (a := v) (b := 4) (by omega)
          refine g_v2 (pc := 54) okV_X1_isBig rfl l_X1_77 dX1_outcomeOfWrite_54 (m_at0 hw) hc_1 (by decide) (by decide) (Nat.le_of_ble_eq_true rfl) (t_X1_isBig hw hi (by omega) (by omega)) (by simp only [m_len]) ?_
          simp only [Option.toList, List.cons_append, List.nil_append]
          have bb := b2_rng (big σ (p) ((Int.tdiv v 4)))
          refine g_z_eq (tgt := 64) (pc := 57) dX1_outcomeOfWrite_57 (by omega) (by decide) (fun c57 => ?_) (fun c57 => ?_)
          · skip
            refine g_iconst (pc := 64) dX1_outcomeOfWrite_64 ?_
            refine g_iret (pc := 65) rfl dX1_outcomeOfWrite_65 (fun h => h) ?_
            refine dt_i ?_ rfl
            have hpg := b2_1.mp (show b2 (hasPg σ p v) = 1 by omega)
            have h1 : ¬ (fo σ p v ≠ -1 ∧ ¬ sh σ (fo σ p v) = true) := by
              rintro ⟨q1, q2⟩
              have q3 := b2_0.mpr q2
              omega
            unfold oc
            rw [if_pos hpg, if_neg h1, if_neg (by omega), if_neg (by omega)]
            first
            | (rw [if_pos (b2_1.mp (by omega))]; done)
            | rw [if_neg (b2_0.mp (by omega))]
          · skip
            refine g_iconst (pc := 60) dX1_outcomeOfWrite_60 ?_
            refine g_goto (tgt := 65) (pc := 61) dX1_outcomeOfWrite_61 (by decide) ?_
            refine g_iret (pc := 65) rfl dX1_outcomeOfWrite_65 (fun h => h) ?_
            refine dt_i ?_ rfl
            have hpg := b2_1.mp (show b2 (hasPg σ p v) = 1 by omega)
            have h1 : ¬ (fo σ p v ≠ -1 ∧ ¬ sh σ (fo σ p v) = true) := by
              rintro ⟨q1, q2⟩
              have q3 := b2_0.mpr q2
              omega
            unfold oc
            rw [if_pos hpg, if_neg h1, if_neg (by omega), if_neg (by omega)]
            first
            | (rw [if_pos (b2_1.mp (by omega))]; done)
            | rw [if_neg (b2_0.mp (by omega))]
        · skip
          refine g_iconst (pc := 47) dX1_outcomeOfWrite_47 ?_
          refine g_iret (pc := 48) rfl dX1_outcomeOfWrite_48 (fun h => h) ?_
          refine dt_i ?_ rfl
          have hpg := b2_1.mp (show b2 (hasPg σ p v) = 1 by omega)
          have h1 : ¬ (fo σ p v ≠ -1 ∧ ¬ sh σ (fo σ p v) = true) := by
            rintro ⟨q1, q2⟩
            have q3 := b2_0.mpr q2
            omega
          unfold oc
          rw [if_pos hpg, if_neg h1, if_neg (by omega), if_pos (by omega)]
      · skip
        refine g_iconst (pc := 40) dX1_outcomeOfWrite_40 ?_
        refine g_iret (pc := 41) rfl dX1_outcomeOfWrite_41 (fun h => h) ?_
        refine dt_i ?_ rfl
        have hpg := b2_1.mp (show b2 (hasPg σ p v) = 1 by omega)
        have h1 : ¬ (fo σ p v ≠ -1 ∧ ¬ sh σ (fo σ p v) = true) := by
          rintro ⟨q1, q2⟩
          have q3 := b2_0.mpr q2
          omega
        unfold oc
        rw [if_pos hpg, if_neg h1, if_pos (by omega)]
    · skip
      refine g_aload_n (i := 0) (pc := 23) dX1_outcomeOfWrite_23 rfl rfl ?_
      refine g_iload_n (i := 3) (pc := 24) dX1_outcomeOfWrite_24 rfl rfl ?_
      refine g_v1 (pc := 25) okV_X1_isShared rfl l_X1_57 dX1_outcomeOfWrite_25 (m_at0 hw) hc_1 (by decide) (by decide) (Nat.le_of_ble_eq_true rfl) (t_X1_isShared hw hi (by omega)) (by simp only [m_len]) ?_
      simp only [Option.toList, List.cons_append, List.nil_append]
      have bb := b2_rng (sh σ ((fo σ (p) (v))))
      refine g_z_ne (tgt := 33) (pc := 28) dX1_outcomeOfWrite_28 (by omega) (by decide) (fun c28 => ?_) (fun c28 => ?_)
      · skip
        refine g_aload_n (i := 0) (pc := 33) dX1_outcomeOfWrite_33 rfl rfl ?_
        refine g_v0 (pc := 34) okV_X1_freeFrames rfl l_X1_99 dX1_outcomeOfWrite_34 (m_at0 hw) hc_1 (by decide) (by decide) (Nat.le_of_ble_eq_true rfl) (t_X1_freeFrames hw hi) (by simp only [m_len]) ?_
        simp only [Option.toList, List.cons_append, List.nil_append]
        have bb := nff_rng σ
        refine g_z_ne (tgt := 42) (pc := 37) dX1_outcomeOfWrite_37 (by omega) (by decide) (fun c37 => ?_) (fun c37 => ?_)
        · skip
          refine g_iload_n (i := 3) (pc := 42) dX1_outcomeOfWrite_42 rfl rfl ?_
          refine g_iconst (pc := 43) dX1_outcomeOfWrite_43 ?_
          refine g_c_ne (tgt := 49) (pc := 44) dX1_outcomeOfWrite_44 (by omega) (by decide) (fun c44 => ?_) (fun c44 => ?_)
          · skip
            refine g_aload_n (i := 0) (pc := 49) dX1_outcomeOfWrite_49 rfl rfl ?_
            refine g_iload_n (i := 1) (pc := 50) dX1_outcomeOfWrite_50 rfl rfl ?_
            refine g_iload_n (i := 2) (pc := 51) dX1_outcomeOfWrite_51 rfl rfl ?_
            refine g_iconst (pc := 52) dX1_outcomeOfWrite_52 ?_
            refine g_idiv (pc := 53) dX1_outcomeOfWrite_53 (by omega) (by omega) ?_
            have hv9 : 0 ≤ v ∧ v < 16 := by
              have hpg := b2_1.mp (show b2 (hasPg σ p v) = 1 by omega)
              rw [hasPg, Bool.and_eq_true, decide_eq_true_eq] at hpg
              exact hpg.2
            have d9 := Int.tdiv_eq_ediv_of_nonneg (a := v) (b := 4) (by omega)
            refine g_v2 (pc := 54) okV_X1_isBig rfl l_X1_77 dX1_outcomeOfWrite_54 (m_at0 hw) hc_1 (by decide) (by decide) (Nat.le_of_ble_eq_true rfl) (t_X1_isBig hw hi (by omega) (by omega)) (by simp only [m_len]) ?_
            simp only [Option.toList, List.cons_append, List.nil_append]
            have bb := b2_rng (big σ (p) ((Int.tdiv v 4)))
            refine g_z_eq (tgt := 64) (pc := 57) dX1_outcomeOfWrite_57 (by omega) (by decide) (fun c57 => ?_) (fun c57 => ?_)
            · skip
              refine g_iconst (pc := 64) dX1_outcomeOfWrite_64 ?_
              refine g_iret (pc := 65) rfl dX1_outcomeOfWrite_65 (fun h => h) ?_
              refine dt_i ?_ rfl
              have hpg := b2_1.mp (show b2 (hasPg σ p v) = 1 by omega)
              have h1 : ¬ (fo σ p v ≠ -1 ∧ ¬ sh σ (fo σ p v) = true) := by
                rintro ⟨q1, q2⟩
                have q3 := b2_0.mpr q2
                omega
              unfold oc
              rw [if_pos hpg, if_neg h1, if_neg (by omega), if_neg (by omega)]
              first
              | (rw [if_pos (b2_1.mp (by omega))]; done)
              | rw [if_neg (b2_0.mp (by omega))]
            · skip
              refine g_iconst (pc := 60) dX1_outcomeOfWrite_60 ?_
              refine g_goto (tgt := 65) (pc := 61) dX1_outcomeOfWrite_61 (by decide) ?_
              refine g_iret (pc := 65) rfl dX1_outcomeOfWrite_65 (fun h => h) ?_
              refine dt_i ?_ rfl
              have hpg := b2_1.mp (show b2 (hasPg σ p v) = 1 by omega)
              have h1 : ¬ (fo σ p v ≠ -1 ∧ ¬ sh σ (fo σ p v) = true) := by
                rintro ⟨q1, q2⟩
                have q3 := b2_0.mpr q2
                omega
              unfold oc
              rw [if_pos hpg, if_neg h1, if_neg (by omega), if_neg (by omega)]
              first
              | (rw [if_pos (b2_1.mp (by omega))]; done)
              | rw [if_neg (b2_0.mp (by omega))]
          · skip
            refine g_iconst (pc := 47) dX1_outcomeOfWrite_47 ?_
            refine g_iret (pc := 48) rfl dX1_outcomeOfWrite_48 (fun h => h) ?_
            refine dt_i ?_ rfl
            have hpg := b2_1.mp (show b2 (hasPg σ p v) = 1 by omega)
            have h1 : ¬ (fo σ p v ≠ -1 ∧ ¬ sh σ (fo σ p v) = true) := by
              rintro ⟨q1, q2⟩
              have q3 := b2_0.mpr q2
              omega
            unfold oc
            rw [if_pos hpg, if_neg h1, if_neg (by omega), if_pos (by omega)]
        · skip
          refine g_iconst (pc := 40) dX1_outcomeOfWrite_40 ?_
          refine g_iret (pc := 41) rfl dX1_outcomeOfWrite_41 (fun h => h) ?_
          refine dt_i ?_ rfl
          have hpg := b2_1.mp (show b2 (hasPg σ p v) = 1 by omega)
          have h1 : ¬ (fo σ p v ≠ -1 ∧ ¬ sh σ (fo σ p v) = true) := by
            rintro ⟨q1, q2⟩
            have q3 := b2_0.mpr q2
            omega
          unfold oc
          rw [if_pos hpg, if_neg h1, if_pos (by omega)]
      · skip
        refine g_iconst (pc := 31) dX1_outcomeOfWrite_31 ?_
        refine g_iret (pc := 32) rfl dX1_outcomeOfWrite_32 (fun h => h) ?_
        refine dt_i ?_ rfl
        have hpg := b2_1.mp (show b2 (hasPg σ p v) = 1 by omega)
        unfold oc
        rw [if_pos hpg, if_pos ⟨by omega, b2_0.mp (by omega)⟩]
  · skip
    refine g_iconst (pc := 9) dX1_outcomeOfWrite_9 ?_
    refine g_iret (pc := 10) rfl dX1_outcomeOfWrite_10 (fun h => h) ?_
    refine dt_i ?_ rfl
    unfold oc
    rw [if_neg (b2_0.mp (by omega))]
set_option maxRecDepth 20000 in
set_option maxHeartbeats 4000000 in
theorem t_X1_bigGroups {w : List MC} {a : Nat} {σ : SG} {al : Bool} (hw : okM w a) (hi : Inv σ) : GM M_X1_bigGroups al [vR a] (setM w a (mem σ)) 0 0 (dt (some (vI (nbg σ))) (setM w a (mem σ))) := by
  show G _ none _ _ 0 [some (vR a)] [] _ _ _ _
  refine g_aload_n (i := 0) (pc := 0) dX1_bigGroups_0 rfl rfl ?_
  refine g_getf (pc := 1) f_X1_28 dX1_bigGroups_1 (m_at0 hw) rfl ?_
  refine G.eqS (congrArg (fun z => vI z) (show (mem σ).2.2.2.2.1 = ((bN (s_bg σ) 16 : Nat) : Int) from bN_eq hi.2.2.1 16)) ?_
  refine g_s1 (pc := 4) okS_J6_bitCount_0f7a4 rfl l_X1_63 dX1_bigGroups_4 (by decide) (by decide) (Nat.le_of_ble_eq_true rfl) (t_J6_bitCount_0f7a4 (N := bN (s_bg σ) 16) (bN_lt _ 16)) rfl ?_
  simp only [Option.toList, List.cons_append, List.nil_append]
  refine G.eqS (congrArg (fun z => vI z) (popN_ct hi.2.2.1 hi.2.2.2.1)) ?_
  refine g_iret (pc := 7) rfl dX1_bigGroups_7 (fun h => h) ?_
  exact dt_i rfl rfl
