/-! MEMORY, its questions (printed by wip/whole/mem1.py, but for the first rows) -/
theorem g_zn {z : Int} (h : z = 0 ∨ z = 1) : ∀ ad, narrow .boolean (g_V ad (vI z)) = g_V ad (vI z) := by
  intro ad
  rcases h with rfl | rfl <;> rfl
theorem g_zf {z : Int} (h : z = 0 ∨ z = 1) : ∀ ad, fits .boolean (g_V ad (vI z)) = true := by
  intro ad
  rcases h with rfl | rfl <;> rfl
theorem m_put3 {w : List MC} {a : Nat} {fr us va : Nat → Int} {pr bg ea co fa te lo z : Int} (h : okM w a) : (setM w a (fr, us, va, pr, bg, ea, co, fa, te, lo)).set a (cObj 1 ((memL a (fr, us, va, pr, bg, ea, co, fa, te, lo)).set 3 (vI z))) = setM w a (fr, us, va, z, bg, ea, co, fa, te, lo) := m_set0 (m := (fr, us, va, pr, bg, ea, co, fa, te, lo)) (m' := (fr, us, va, z, bg, ea, co, fa, te, lo)) h rfl rfl rfl
theorem m_put4 {w : List MC} {a : Nat} {fr us va : Nat → Int} {pr bg ea co fa te lo z : Int} (h : okM w a) : (setM w a (fr, us, va, pr, bg, ea, co, fa, te, lo)).set a (cObj 1 ((memL a (fr, us, va, pr, bg, ea, co, fa, te, lo)).set 4 (vI z))) = setM w a (fr, us, va, pr, z, ea, co, fa, te, lo) := m_set0 (m := (fr, us, va, pr, bg, ea, co, fa, te, lo)) (m' := (fr, us, va, pr, z, ea, co, fa, te, lo)) h rfl rfl rfl
theorem m_put5 {w : List MC} {a : Nat} {fr us va : Nat → Int} {pr bg ea co fa te lo z : Int} (h : okM w a) : (setM w a (fr, us, va, pr, bg, ea, co, fa, te, lo)).set a (cObj 1 ((memL a (fr, us, va, pr, bg, ea, co, fa, te, lo)).set 5 (vI z))) = setM w a (fr, us, va, pr, bg, z, co, fa, te, lo) := m_set0 (m := (fr, us, va, pr, bg, ea, co, fa, te, lo)) (m' := (fr, us, va, pr, bg, z, co, fa, te, lo)) h rfl rfl rfl
theorem m_put6 {w : List MC} {a : Nat} {fr us va : Nat → Int} {pr bg ea co fa te lo z : Int} (h : okM w a) : (setM w a (fr, us, va, pr, bg, ea, co, fa, te, lo)).set a (cObj 1 ((memL a (fr, us, va, pr, bg, ea, co, fa, te, lo)).set 6 (vI z))) = setM w a (fr, us, va, pr, bg, ea, z, fa, te, lo) := m_set0 (m := (fr, us, va, pr, bg, ea, co, fa, te, lo)) (m' := (fr, us, va, pr, bg, ea, z, fa, te, lo)) h rfl rfl rfl
theorem m_put7 {w : List MC} {a : Nat} {fr us va : Nat → Int} {pr bg ea co fa te lo z : Int} (h : okM w a) : (setM w a (fr, us, va, pr, bg, ea, co, fa, te, lo)).set a (cObj 1 ((memL a (fr, us, va, pr, bg, ea, co, fa, te, lo)).set 7 (vI z))) = setM w a (fr, us, va, pr, bg, ea, co, z, te, lo) := m_set0 (m := (fr, us, va, pr, bg, ea, co, fa, te, lo)) (m' := (fr, us, va, pr, bg, ea, co, z, te, lo)) h rfl rfl rfl
theorem m_put8 {w : List MC} {a : Nat} {fr us va : Nat → Int} {pr bg ea co fa te lo z : Int} (h : okM w a) : (setM w a (fr, us, va, pr, bg, ea, co, fa, te, lo)).set a (cObj 1 ((memL a (fr, us, va, pr, bg, ea, co, fa, te, lo)).set 8 (vI z))) = setM w a (fr, us, va, pr, bg, ea, co, fa, z, lo) := m_set0 (m := (fr, us, va, pr, bg, ea, co, fa, te, lo)) (m' := (fr, us, va, pr, bg, ea, co, fa, z, lo)) h rfl rfl rfl
theorem m_put9 {w : List MC} {a : Nat} {fr us va : Nat → Int} {pr bg ea co fa te lo z : Int} (h : okM w a) : (setM w a (fr, us, va, pr, bg, ea, co, fa, te, lo)).set a (cObj 1 ((memL a (fr, us, va, pr, bg, ea, co, fa, te, lo)).set 9 (vI z))) = setM w a (fr, us, va, pr, bg, ea, co, fa, te, z) := m_set0 (m := (fr, us, va, pr, bg, ea, co, fa, te, lo)) (m' := (fr, us, va, pr, bg, ea, co, fa, te, z)) h rfl rfl rfl
set_option maxRecDepth 20000 in
set_option maxHeartbeats 4000000 in
theorem t_X1_hasProcess {w : List MC} {a : Nat} {σ : SG} {al : Bool} (hw : okM w a) (hi : Inv σ) {p : Int} (h_p : -2147483648 ≤ p ∧ p < 2147483648) : GM M_X1_hasProcess al [vR a, vI p] (setM w a (mem σ)) 0 0 (dt (some (vI (b2 (hasP σ p)))) (setM w a (mem σ))) := by
  show G _ none _ _ 0 [some (vR a), some (vI p)] [] _ _ _ _
  refine g_iload_n (i := 1) (pc := 0) dX1_hasProcess_0 rfl rfl ?_
  refine g_z_lt (tgt := 25) (pc := 1) dX1_hasProcess_1 (by omega) (by decide) (fun c1 => ?_) (fun c1 => ?_)
  · skip
    refine g_iconst (pc := 25) dX1_hasProcess_25 ?_
    refine g_zret (pc := 26) rfl dX1_hasProcess_26 (by omega) (fun h => h) ?_
    first
    | exact dt_i (b2_t (by simp only [hasP, decide_eq_true_eq]; omega)).symm rfl
    | exact dt_i (b2_f (by simp only [hasP, decide_eq_true_eq]; omega)).symm rfl
  · skip
    refine g_iload_n (i := 1) (pc := 4) dX1_hasProcess_4 rfl rfl ?_
    refine g_iconst (pc := 5) dX1_hasProcess_5 ?_
    refine g_c_ge (tgt := 25) (pc := 6) dX1_hasProcess_6 (by omega) (by decide) (fun c6 => ?_) (fun c6 => ?_)
    · skip
      refine g_iconst (pc := 25) dX1_hasProcess_25 ?_
      refine g_zret (pc := 26) rfl dX1_hasProcess_26 (by omega) (fun h => h) ?_
      first
      | exact dt_i (b2_t (by simp only [hasP, decide_eq_true_eq]; omega)).symm rfl
      | exact dt_i (b2_f (by simp only [hasP, decide_eq_true_eq]; omega)).symm rfl
    · skip
      refine g_aload_n (i := 0) (pc := 9) dX1_hasProcess_9 rfl rfl ?_
      refine g_getf (pc := 10) f_X1_24 dX1_hasProcess_10 (m_at0 hw) rfl ?_
      refine g_iload_n (i := 1) (pc := 13) dX1_hasProcess_13 rfl rfl ?_
      refine g_ishr (pc := 14) dX1_hasProcess_14 ?_
      refine g_iconst (pc := 15) dX1_hasProcess_15 ?_
      refine g_iand (pc := 16) dX1_hasProcess_16 ?_
      have e9 : b_and (b_shr (mem σ).2.2.2.1 p) 1 = s_ex σ p.toNat := by
        obtain ⟨n, rfl⟩ := Int.eq_ofNat_of_zero_le c1
        exact z_get hi.2.2.2.2.2.2.1 (by decide) (by omega)
      refine G.eqS (congrArg (fun z => vI z) e9) ?_
      have x9 := hi.2.2.2.2.2.2.1 p.toNat
      refine g_iconst (pc := 17) dX1_hasProcess_17 ?_
      refine g_c_ne (tgt := 25) (pc := 18) dX1_hasProcess_18 (by omega) (by decide) (fun c18 => ?_) (fun c18 => ?_)
      · skip
        refine g_iconst (pc := 25) dX1_hasProcess_25 ?_
        refine g_zret (pc := 26) rfl dX1_hasProcess_26 (by omega) (fun h => h) ?_
        first
        | exact dt_i (b2_t (by simp only [hasP, decide_eq_true_eq]; omega)).symm rfl
        | exact dt_i (b2_f (by simp only [hasP, decide_eq_true_eq]; omega)).symm rfl
      · skip
        refine g_iconst (pc := 21) dX1_hasProcess_21 ?_
        refine g_goto (tgt := 26) (pc := 22) dX1_hasProcess_22 (by decide) ?_
        refine g_zret (pc := 26) rfl dX1_hasProcess_26 (by omega) (fun h => h) ?_
        first
        | exact dt_i (b2_t (by simp only [hasP, decide_eq_true_eq]; omega)).symm rfl
        | exact dt_i (b2_f (by simp only [hasP, decide_eq_true_eq]; omega)).symm rfl
set_option maxRecDepth 20000 in
set_option maxHeartbeats 4000000 in
theorem t_X1_hasPage {w : List MC} {a : Nat} {σ : SG} {al : Bool} (hw : okM w a) (hi : Inv σ) {p v : Int} (h_p : -2147483648 ≤ p ∧ p < 2147483648) (h_v : -2147483648 ≤ v ∧ v < 2147483648) : GM M_X1_hasPage al [vR a, vI p, vI v] (setM w a (mem σ)) 0 0 (dt (some (vI (b2 (hasPg σ p v)))) (setM w a (mem σ))) := by
  show G _ none _ _ 0 [some (vR a), some (vI p), some (vI v)] [] _ _ _ _
  refine g_aload_n (i := 0) (pc := 0) dX1_hasPage_0 rfl rfl ?_
  refine g_iload_n (i := 1) (pc := 1) dX1_hasPage_1 rfl rfl ?_
  refine g_v1 (pc := 2) okV_X1_hasProcess rfl l_X1_53 dX1_hasPage_2 (m_at0 hw) hc_1 (by decide) (by decide) (Nat.le_of_ble_eq_true rfl) (t_X1_hasProcess hw hi (by omega)) (by simp only [m_len]) ?_
  simp only [Option.toList, List.cons_append, List.nil_append]
  have bb := b2_rng (hasP σ (p))
  refine g_z_eq (tgt := 22) (pc := 5) dX1_hasPage_5 (by omega) (by decide) (fun c5 => ?_) (fun c5 => ?_)
  · skip
    refine g_iconst (pc := 22) dX1_hasPage_22 ?_
    refine g_zret (pc := 23) rfl dX1_hasPage_23 (by omega) (fun h => h) ?_
    first
    | exact dt_i (b2_t (by rw [hasPg, Bool.and_eq_true, decide_eq_true_eq]; exact ⟨b2_1.mp (by omega), by omega⟩)).symm rfl
    | exact dt_i (b2_f (by rw [hasPg, Bool.and_eq_true, decide_eq_true_eq]; intro h; have h1 := b2_1.mpr h.1; omega)).symm rfl
  · skip
    refine g_iload_n (i := 2) (pc := 8) dX1_hasPage_8 rfl rfl ?_
    refine g_z_lt (tgt := 22) (pc := 9) dX1_hasPage_9 (by omega) (by decide) (fun c9 => ?_) (fun c9 => ?_)
    · skip
      refine g_iconst (pc := 22) dX1_hasPage_22 ?_
      refine g_zret (pc := 23) rfl dX1_hasPage_23 (by omega) (fun h => h) ?_
      first
      | exact dt_i (b2_t (by rw [hasPg, Bool.and_eq_true, decide_eq_true_eq]; exact ⟨b2_1.mp (by omega), by omega⟩)).symm rfl
      | exact dt_i (b2_f (by rw [hasPg, Bool.and_eq_true, decide_eq_true_eq]; intro h; have h1 := b2_1.mpr h.1; omega)).symm rfl
    · skip
      refine g_iload_n (i := 2) (pc := 12) dX1_hasPage_12 rfl rfl ?_
      refine g_bipush (pc := 13) dX1_hasPage_13 (by decide) ?_
      refine g_c_ge (tgt := 22) (pc := 15) dX1_hasPage_15 (by omega) (by decide) (fun c15 => ?_) (fun c15 => ?_)
      · skip
        refine g_iconst (pc := 22) dX1_hasPage_22 ?_
        refine g_zret (pc := 23) rfl dX1_hasPage_23 (by omega) (fun h => h) ?_
        first
        | exact dt_i (b2_t (by rw [hasPg, Bool.and_eq_true, decide_eq_true_eq]; exact ⟨b2_1.mp (by omega), by omega⟩)).symm rfl
        | exact dt_i (b2_f (by rw [hasPg, Bool.and_eq_true, decide_eq_true_eq]; intro h; have h1 := b2_1.mpr h.1; omega)).symm rfl
      · skip
        refine g_iconst (pc := 18) dX1_hasPage_18 ?_
        refine g_goto (tgt := 23) (pc := 19) dX1_hasPage_19 (by decide) ?_
        refine g_zret (pc := 23) rfl dX1_hasPage_23 (by omega) (fun h => h) ?_
        first
        | exact dt_i (b2_t (by rw [hasPg, Bool.and_eq_true, decide_eq_true_eq]; exact ⟨b2_1.mp (by omega), by omega⟩)).symm rfl
        | exact dt_i (b2_f (by rw [hasPg, Bool.and_eq_true, decide_eq_true_eq]; intro h; have h1 := b2_1.mpr h.1; omega)).symm rfl
set_option maxRecDepth 20000 in
set_option maxHeartbeats 4000000 in
theorem t_X1_hasGroup {w : List MC} {a : Nat} {σ : SG} {al : Bool} (hw : okM w a) (hi : Inv σ) {p v : Int} (h_p : -2147483648 ≤ p ∧ p < 2147483648) (h_v : -2147483648 ≤ v ∧ v < 2147483648) : GM M_X1_hasGroup al [vR a, vI p, vI v] (setM w a (mem σ)) 0 0 (dt (some (vI (b2 (hasGr σ p v)))) (setM w a (mem σ))) := by
  show G _ none _ _ 0 [some (vR a), some (vI p), some (vI v)] [] _ _ _ _
  refine g_aload_n (i := 0) (pc := 0) dX1_hasGroup_0 rfl rfl ?_
  refine g_iload_n (i := 1) (pc := 1) dX1_hasGroup_1 rfl rfl ?_
  refine g_v1 (pc := 2) okV_X1_hasProcess rfl l_X1_53 dX1_hasGroup_2 (m_at0 hw) hc_1 (by decide) (by decide) (Nat.le_of_ble_eq_true rfl) (t_X1_hasProcess hw hi (by omega)) (by simp only [m_len]) ?_
  simp only [Option.toList, List.cons_append, List.nil_append]
  have bb := b2_rng (hasP σ (p))
  refine g_z_eq (tgt := 21) (pc := 5) dX1_hasGroup_5 (by omega) (by decide) (fun c5 => ?_) (fun c5 => ?_)
  · skip
    refine g_iconst (pc := 21) dX1_hasGroup_21 ?_
    refine g_zret (pc := 22) rfl dX1_hasGroup_22 (by omega) (fun h => h) ?_
    first
    | exact dt_i (b2_t (by rw [hasGr, Bool.and_eq_true, decide_eq_true_eq]; exact ⟨b2_1.mp (by omega), by omega⟩)).symm rfl
    | exact dt_i (b2_f (by rw [hasGr, Bool.and_eq_true, decide_eq_true_eq]; intro h; have h1 := b2_1.mpr h.1; omega)).symm rfl
  · skip
    refine g_iload_n (i := 2) (pc := 8) dX1_hasGroup_8 rfl rfl ?_
    refine g_z_lt (tgt := 21) (pc := 9) dX1_hasGroup_9 (by omega) (by decide) (fun c9 => ?_) (fun c9 => ?_)
    · skip
      refine g_iconst (pc := 21) dX1_hasGroup_21 ?_
      refine g_zret (pc := 22) rfl dX1_hasGroup_22 (by omega) (fun h => h) ?_
      first
      | exact dt_i (b2_t (by rw [hasGr, Bool.and_eq_true, decide_eq_true_eq]; exact ⟨b2_1.mp (by omega), by omega⟩)).symm rfl
      | exact dt_i (b2_f (by rw [hasGr, Bool.and_eq_true, decide_eq_true_eq]; intro h; have h1 := b2_1.mpr h.1; omega)).symm rfl
    · skip
      refine g_iload_n (i := 2) (pc := 12) dX1_hasGroup_12 rfl rfl ?_
      refine g_iconst (pc := 13) dX1_hasGroup_13 ?_
      refine g_c_ge (tgt := 21) (pc := 14) dX1_hasGroup_14 (by omega) (by decide) (fun c14 => ?_) (fun c14 => ?_)
      · skip
        refine g_iconst (pc := 21) dX1_hasGroup_21 ?_
        refine g_zret (pc := 22) rfl dX1_hasGroup_22 (by omega) (fun h => h) ?_
        first
        | exact dt_i (b2_t (by rw [hasGr, Bool.and_eq_true, decide_eq_true_eq]; exact ⟨b2_1.mp (by omega), by omega⟩)).symm rfl
        | exact dt_i (b2_f (by rw [hasGr, Bool.and_eq_true, decide_eq_true_eq]; intro h; have h1 := b2_1.mpr h.1; omega)).symm rfl
      · skip
        refine g_iconst (pc := 17) dX1_hasGroup_17 ?_
        refine g_goto (tgt := 22) (pc := 18) dX1_hasGroup_18 (by decide) ?_
        refine g_zret (pc := 22) rfl dX1_hasGroup_22 (by omega) (fun h => h) ?_
        first
        | exact dt_i (b2_t (by rw [hasGr, Bool.and_eq_true, decide_eq_true_eq]; exact ⟨b2_1.mp (by omega), by omega⟩)).symm rfl
        | exact dt_i (b2_f (by rw [hasGr, Bool.and_eq_true, decide_eq_true_eq]; intro h; have h1 := b2_1.mpr h.1; omega)).symm rfl
set_option maxRecDepth 20000 in
set_option maxHeartbeats 4000000 in
theorem t_X1_processes {w : List MC} {a : Nat} {σ : SG} {al : Bool} (hw : okM w a) (hi : Inv σ) : GM M_X1_processes al [vR a] (setM w a (mem σ)) 0 0 (dt (some (vI (bsum (s_ex σ) 4))) (setM w a (mem σ))) := by
  show G _ none _ _ 0 [some (vR a)] [] _ _ _ _
  refine g_aload_n (i := 0) (pc := 0) dX1_processes_0 rfl rfl ?_
  refine g_getf (pc := 1) f_X1_24 dX1_processes_1 (m_at0 hw) rfl ?_
  refine g_iret (pc := 4) rfl dX1_processes_4 (fun h => h) ?_
  exact dt_i rfl rfl
set_option maxRecDepth 20000 in
set_option maxHeartbeats 4000000 in
theorem t_X1_frameOf {w : List MC} {a : Nat} {σ : SG} {al : Bool} (hw : okM w a) (hi : Inv σ) {p v : Int} (h_p : -2147483648 ≤ p ∧ p < 2147483648) (h_v : -2147483648 ≤ v ∧ v < 2147483648) : GM M_X1_frameOf al [vR a, vI p, vI v] (setM w a (mem σ)) 0 0 (dt (some (vI (fo σ p v))) (setM w a (mem σ))) := by
  show G _ none _ _ 0 [some (vR a), some (vI p), some (vI v), none] [] _ _ _ _
  refine g_iload_n (i := 1) (pc := 0) dX1_frameOf_0 rfl rfl ?_
  refine g_z_lt (tgt := 23) (pc := 1) dX1_frameOf_1 (by omega) (by decide) (fun c1 => ?_) (fun c1 => ?_)
  · skip
    refine g_iconst (pc := 23) dX1_frameOf_23 ?_
    refine g_istore_n (i := 3) (pc := 24) dX1_frameOf_24 rfl (by decide) rfl ?_
    simp only [List.set_cons_succ, List.set_cons_zero]
    refine g_iload_n (i := 3) (pc := 25) dX1_frameOf_25 rfl rfl ?_
    refine g_z_eq (tgt := 43) (pc := 26) dX1_frameOf_26 (by omega) (by decide) (fun c26 => ?_) (fun c26 => absurd c26 (by omega))
    refine g_iconst (pc := 43) dX1_frameOf_43 ?_
    refine g_iret (pc := 44) rfl dX1_frameOf_44 (fun h => h) ?_
    first
    | exact dt_i (by unfold fo; rw [if_pos (by omega)]; rfl) rfl
    | exact dt_i (by unfold fo; rw [if_neg (by omega)]) rfl
  · skip
    refine g_iload_n (i := 1) (pc := 4) dX1_frameOf_4 rfl rfl ?_
    refine g_iconst (pc := 5) dX1_frameOf_5 ?_
    refine g_c_ge (tgt := 23) (pc := 6) dX1_frameOf_6 (by omega) (by decide) (fun c6 => ?_) (fun c6 => ?_)
    · skip
      refine g_iconst (pc := 23) dX1_frameOf_23 ?_
      refine g_istore_n (i := 3) (pc := 24) dX1_frameOf_24 rfl (by decide) rfl ?_
      simp only [List.set_cons_succ, List.set_cons_zero]
      refine g_iload_n (i := 3) (pc := 25) dX1_frameOf_25 rfl rfl ?_
      refine g_z_eq (tgt := 43) (pc := 26) dX1_frameOf_26 (by omega) (by decide) (fun c26 => ?_) (fun c26 => absurd c26 (by omega))
      refine g_iconst (pc := 43) dX1_frameOf_43 ?_
      refine g_iret (pc := 44) rfl dX1_frameOf_44 (fun h => h) ?_
      first
      | exact dt_i (by unfold fo; rw [if_pos (by omega)]; rfl) rfl
      | exact dt_i (by unfold fo; rw [if_neg (by omega)]) rfl
    · skip
      refine g_iload_n (i := 2) (pc := 9) dX1_frameOf_9 rfl rfl ?_
      refine g_z_lt (tgt := 23) (pc := 10) dX1_frameOf_10 (by omega) (by decide) (fun c10 => ?_) (fun c10 => ?_)
      · skip
        refine g_iconst (pc := 23) dX1_frameOf_23 ?_
        refine g_istore_n (i := 3) (pc := 24) dX1_frameOf_24 rfl (by decide) rfl ?_
        simp only [List.set_cons_succ, List.set_cons_zero]
        refine g_iload_n (i := 3) (pc := 25) dX1_frameOf_25 rfl rfl ?_
        refine g_z_eq (tgt := 43) (pc := 26) dX1_frameOf_26 (by omega) (by decide) (fun c26 => ?_) (fun c26 => absurd c26 (by omega))
        refine g_iconst (pc := 43) dX1_frameOf_43 ?_
        refine g_iret (pc := 44) rfl dX1_frameOf_44 (fun h => h) ?_
        first
        | exact dt_i (by unfold fo; rw [if_pos (by omega)]; rfl) rfl
        | exact dt_i (by unfold fo; rw [if_neg (by omega)]) rfl
      · skip
        refine g_iload_n (i := 2) (pc := 13) dX1_frameOf_13 rfl rfl ?_
        refine g_bipush (pc := 14) dX1_frameOf_14 (by decide) ?_
        refine g_c_ge (tgt := 23) (pc := 16) dX1_frameOf_16 (by omega) (by decide) (fun c16 => ?_) (fun c16 => ?_)
        · skip
          refine g_iconst (pc := 23) dX1_frameOf_23 ?_
          refine g_istore_n (i := 3) (pc := 24) dX1_frameOf_24 rfl (by decide) rfl ?_
          simp only [List.set_cons_succ, List.set_cons_zero]
          refine g_iload_n (i := 3) (pc := 25) dX1_frameOf_25 rfl rfl ?_
          refine g_z_eq (tgt := 43) (pc := 26) dX1_frameOf_26 (by omega) (by decide) (fun c26 => ?_) (fun c26 => absurd c26 (by omega))
          refine g_iconst (pc := 43) dX1_frameOf_43 ?_
          refine g_iret (pc := 44) rfl dX1_frameOf_44 (fun h => h) ?_
          first
          | exact dt_i (by unfold fo; rw [if_pos (by omega)]; rfl) rfl
          | exact dt_i (by unfold fo; rw [if_neg (by omega)]) rfl
        · skip
          refine g_iconst (pc := 19) dX1_frameOf_19 ?_
          refine g_goto (tgt := 24) (pc := 20) dX1_frameOf_20 (by decide) ?_
          refine g_istore_n (i := 3) (pc := 24) dX1_frameOf_24 rfl (by decide) rfl ?_
          simp only [List.set_cons_succ, List.set_cons_zero]
          refine g_iload_n (i := 3) (pc := 25) dX1_frameOf_25 rfl rfl ?_
          refine g_z_eq (tgt := 43) (pc := 26) dX1_frameOf_26 (by omega) (by decide) (fun c26 => absurd c26 (by omega)) (fun c26 => ?_)
          refine g_aload_n (i := 0) (pc := 29) dX1_frameOf_29 rfl rfl ?_
          refine g_getf (pc := 30) f_X1_9 dX1_frameOf_30 (m_at0 hw) rfl ?_
          refine g_bipush (pc := 33) dX1_frameOf_33 (by decide) ?_
          refine g_iload_n (i := 1) (pc := 35) dX1_frameOf_35 rfl rfl ?_
          refine g_imul (pc := 36) dX1_frameOf_36 ?_
          refine g_iload_n (i := 2) (pc := 37) dX1_frameOf_37 rfl rfl ?_
          refine g_iadd (pc := 38) dX1_frameOf_38 ?_
          refine g_iald (pc := 39) dX1_frameOf_39 (m_at1 hw) (by omega) ?_
          refine g_goto (tgt := 44) (pc := 40) dX1_frameOf_40 (by decide) ?_
          refine g_iret (pc := 44) rfl dX1_frameOf_44 (fun h => h) ?_
          first
          | exact dt_i (by unfold fo; rw [if_pos (by omega)]; rfl) rfl
          | exact dt_i (by unfold fo; rw [if_neg (by omega)]) rfl
set_option maxRecDepth 20000 in
set_option maxHeartbeats 4000000 in
theorem t_X1_valueOf {w : List MC} {a : Nat} {σ : SG} {al : Bool} (hw : okM w a) (hi : Inv σ) {p v : Int} (h_p : -2147483648 ≤ p ∧ p < 2147483648) (h_v : -2147483648 ≤ v ∧ v < 2147483648) : GM M_X1_valueOf al [vR a, vI p, vI v] (setM w a (mem σ)) 0 0 (dt (some (vI (vo σ p v))) (setM w a (mem σ))) := by
  show G _ none _ _ 0 [some (vR a), some (vI p), some (vI v), none] [] _ _ _ _
  refine g_aload_n (i := 0) (pc := 0) dX1_valueOf_0 rfl rfl ?_
  refine g_iload_n (i := 1) (pc := 1) dX1_valueOf_1 rfl rfl ?_
  refine g_iload_n (i := 2) (pc := 2) dX1_valueOf_2 rfl rfl ?_
  refine g_v2 (pc := 3) okV_X1_frameOf rfl l_X1_73 dX1_valueOf_3 (m_at0 hw) hc_1 (by decide) (by decide) (Nat.le_of_ble_eq_true rfl) (t_X1_frameOf hw hi (by omega) (by omega)) (by simp only [m_len]) ?_
  simp only [Option.toList, List.cons_append, List.nil_append]
  have bb := fo_rng hi (p) (v)
  refine g_istore_n (i := 3) (pc := 6) dX1_valueOf_6 rfl (by decide) rfl ?_
  simp only [List.set_cons_succ, List.set_cons_zero]
  refine g_iload_n (i := 3) (pc := 7) dX1_valueOf_7 rfl rfl ?_
  refine g_iconst (pc := 8) dX1_valueOf_8 ?_
  refine g_c_ne (tgt := 16) (pc := 9) dX1_valueOf_9 (by omega) (by decide) (fun c9 => ?_) (fun c9 => ?_)
  · skip
    refine g_aload_n (i := 0) (pc := 16) dX1_valueOf_16 rfl rfl ?_
    refine g_getf (pc := 17) f_X1_18 dX1_valueOf_17 (m_at0 hw) rfl ?_
    refine g_iload_n (i := 3) (pc := 20) dX1_valueOf_20 rfl rfl ?_
    refine g_iald (pc := 21) dX1_valueOf_21 (m_at3 hw) (by omega) ?_
    refine g_iret (pc := 22) rfl dX1_valueOf_22 (fun h => h) ?_
    refine dt_i ?_ rfl
    unfold vo
    rw [if_neg (by omega)]
    rfl
  · skip
    refine g_iconst (pc := 12) dX1_valueOf_12 ?_
    refine g_goto (tgt := 22) (pc := 13) dX1_valueOf_13 (by decide) ?_
    refine g_iret (pc := 22) rfl dX1_valueOf_22 (fun h => h) ?_
    exact dt_i (by unfold vo; rw [if_pos (by omega)]) rfl
set_option maxRecDepth 20000 in
set_option maxHeartbeats 4000000 in
theorem t_X1_usersOfFrameOf {w : List MC} {a : Nat} {σ : SG} {al : Bool} (hw : okM w a) (hi : Inv σ) {p v : Int} (h_p : -2147483648 ≤ p ∧ p < 2147483648) (h_v : -2147483648 ≤ v ∧ v < 2147483648) : GM M_X1_usersOfFrameOf al [vR a, vI p, vI v] (setM w a (mem σ)) 0 0 (dt (some (vI (uo σ p v))) (setM w a (mem σ))) := by
  show G _ none _ _ 0 [some (vR a), some (vI p), some (vI v), none] [] _ _ _ _
  refine g_aload_n (i := 0) (pc := 0) dX1_usersOfFrameOf_0 rfl rfl ?_
  refine g_iload_n (i := 1) (pc := 1) dX1_usersOfFrameOf_1 rfl rfl ?_
  refine g_iload_n (i := 2) (pc := 2) dX1_usersOfFrameOf_2 rfl rfl ?_
  refine g_v2 (pc := 3) okV_X1_frameOf rfl l_X1_73 dX1_usersOfFrameOf_3 (m_at0 hw) hc_1 (by decide) (by decide) (Nat.le_of_ble_eq_true rfl) (t_X1_frameOf hw hi (by omega) (by omega)) (by simp only [m_len]) ?_
  simp only [Option.toList, List.cons_append, List.nil_append]
  have bb := fo_rng hi (p) (v)
  refine g_istore_n (i := 3) (pc := 6) dX1_usersOfFrameOf_6 rfl (by decide) rfl ?_
  simp only [List.set_cons_succ, List.set_cons_zero]
  refine g_iload_n (i := 3) (pc := 7) dX1_usersOfFrameOf_7 rfl rfl ?_
  refine g_iconst (pc := 8) dX1_usersOfFrameOf_8 ?_
  refine g_c_ne (tgt := 16) (pc := 9) dX1_usersOfFrameOf_9 (by omega) (by decide) (fun c9 => ?_) (fun c9 => ?_)
  · skip
    refine g_aload_n (i := 0) (pc := 16) dX1_usersOfFrameOf_16 rfl rfl ?_
    refine g_getf (pc := 17) f_X1_15 dX1_usersOfFrameOf_17 (m_at0 hw) rfl ?_
    refine g_iload_n (i := 3) (pc := 20) dX1_usersOfFrameOf_20 rfl rfl ?_
    refine g_iald (pc := 21) dX1_usersOfFrameOf_21 (m_at2 hw) (by omega) ?_
    refine g_iret (pc := 22) rfl dX1_usersOfFrameOf_22 (fun h => h) ?_
    refine dt_i ?_ rfl
    unfold uo
    rw [if_neg (by omega)]
    show uses (s_fr σ) _ = _
    rw [Int.toNat_of_nonneg (by omega)]
  · skip
    refine g_iconst (pc := 12) dX1_usersOfFrameOf_12 ?_
    refine g_goto (tgt := 22) (pc := 13) dX1_usersOfFrameOf_13 (by decide) ?_
    refine g_iret (pc := 22) rfl dX1_usersOfFrameOf_22 (fun h => h) ?_
    exact dt_i (by unfold uo; rw [if_pos (by omega)]) rfl
set_option maxRecDepth 20000 in
set_option maxHeartbeats 4000000 in
theorem t_X1_isBig {w : List MC} {a : Nat} {σ : SG} {al : Bool} (hw : okM w a) (hi : Inv σ) {p g : Int} (h_p : -2147483648 ≤ p ∧ p < 2147483648) (h_g : -2147483648 ≤ g ∧ g < 2147483648) : GM M_X1_isBig al [vR a, vI p, vI g] (setM w a (mem σ)) 0 0 (dt (some (vI (b2 (big σ p g)))) (setM w a (mem σ))) := by
  show G _ none _ _ 0 [some (vR a), some (vI p), some (vI g), none] [] _ _ _ _
  refine g_iload_n (i := 1) (pc := 0) dX1_isBig_0 rfl rfl ?_
  refine g_z_lt (tgt := 22) (pc := 1) dX1_isBig_1 (by omega) (by decide) (fun c1 => ?_) (fun c1 => ?_)
  · skip
    refine g_iconst (pc := 22) dX1_isBig_22 ?_
    refine g_istore_n (i := 3) (pc := 23) dX1_isBig_23 rfl (by decide) rfl ?_
    simp only [List.set_cons_succ, List.set_cons_zero]
    refine g_iload_n (i := 3) (pc := 24) dX1_isBig_24 rfl rfl ?_
    refine g_z_eq (tgt := 48) (pc := 25) dX1_isBig_25 (by omega) (by decide) (fun c25 => ?_) (fun c25 => absurd c25 (by omega))
    refine g_iconst (pc := 48) dX1_isBig_48 ?_
    refine g_zret (pc := 49) rfl dX1_isBig_49 (by omega) (fun h => h) ?_
    first
    | exact dt_i (b2_t (by simp only [big, decide_eq_true_eq]; omega)).symm rfl
    | exact dt_i (b2_f (by simp only [big, decide_eq_true_eq]; omega)).symm rfl
  · skip
    refine g_iload_n (i := 1) (pc := 4) dX1_isBig_4 rfl rfl ?_
    refine g_iconst (pc := 5) dX1_isBig_5 ?_
    refine g_c_ge (tgt := 22) (pc := 6) dX1_isBig_6 (by omega) (by decide) (fun c6 => ?_) (fun c6 => ?_)
    · skip
      refine g_iconst (pc := 22) dX1_isBig_22 ?_
      refine g_istore_n (i := 3) (pc := 23) dX1_isBig_23 rfl (by decide) rfl ?_
      simp only [List.set_cons_succ, List.set_cons_zero]
      refine g_iload_n (i := 3) (pc := 24) dX1_isBig_24 rfl rfl ?_
      refine g_z_eq (tgt := 48) (pc := 25) dX1_isBig_25 (by omega) (by decide) (fun c25 => ?_) (fun c25 => absurd c25 (by omega))
      refine g_iconst (pc := 48) dX1_isBig_48 ?_
      refine g_zret (pc := 49) rfl dX1_isBig_49 (by omega) (fun h => h) ?_
      first
      | exact dt_i (b2_t (by simp only [big, decide_eq_true_eq]; omega)).symm rfl
      | exact dt_i (b2_f (by simp only [big, decide_eq_true_eq]; omega)).symm rfl
    · skip
      refine g_iload_n (i := 2) (pc := 9) dX1_isBig_9 rfl rfl ?_
      refine g_z_lt (tgt := 22) (pc := 10) dX1_isBig_10 (by omega) (by decide) (fun c10 => ?_) (fun c10 => ?_)
      · skip
        refine g_iconst (pc := 22) dX1_isBig_22 ?_
        refine g_istore_n (i := 3) (pc := 23) dX1_isBig_23 rfl (by decide) rfl ?_
        simp only [List.set_cons_succ, List.set_cons_zero]
        refine g_iload_n (i := 3) (pc := 24) dX1_isBig_24 rfl rfl ?_
        refine g_z_eq (tgt := 48) (pc := 25) dX1_isBig_25 (by omega) (by decide) (fun c25 => ?_) (fun c25 => absurd c25 (by omega))
        refine g_iconst (pc := 48) dX1_isBig_48 ?_
        refine g_zret (pc := 49) rfl dX1_isBig_49 (by omega) (fun h => h) ?_
        first
        | exact dt_i (b2_t (by simp only [big, decide_eq_true_eq]; omega)).symm rfl
        | exact dt_i (b2_f (by simp only [big, decide_eq_true_eq]; omega)).symm rfl
      · skip
        refine g_iload_n (i := 2) (pc := 13) dX1_isBig_13 rfl rfl ?_
        refine g_iconst (pc := 14) dX1_isBig_14 ?_
        refine g_c_ge (tgt := 22) (pc := 15) dX1_isBig_15 (by omega) (by decide) (fun c15 => ?_) (fun c15 => ?_)
        · skip
          refine g_iconst (pc := 22) dX1_isBig_22 ?_
          refine g_istore_n (i := 3) (pc := 23) dX1_isBig_23 rfl (by decide) rfl ?_
          simp only [List.set_cons_succ, List.set_cons_zero]
          refine g_iload_n (i := 3) (pc := 24) dX1_isBig_24 rfl rfl ?_
          refine g_z_eq (tgt := 48) (pc := 25) dX1_isBig_25 (by omega) (by decide) (fun c25 => ?_) (fun c25 => absurd c25 (by omega))
          refine g_iconst (pc := 48) dX1_isBig_48 ?_
          refine g_zret (pc := 49) rfl dX1_isBig_49 (by omega) (fun h => h) ?_
          first
          | exact dt_i (b2_t (by simp only [big, decide_eq_true_eq]; omega)).symm rfl
          | exact dt_i (b2_f (by simp only [big, decide_eq_true_eq]; omega)).symm rfl
        · skip
          refine g_iconst (pc := 18) dX1_isBig_18 ?_
          refine g_goto (tgt := 23) (pc := 19) dX1_isBig_19 (by decide) ?_
          refine g_istore_n (i := 3) (pc := 23) dX1_isBig_23 rfl (by decide) rfl ?_
          simp only [List.set_cons_succ, List.set_cons_zero]
          refine g_iload_n (i := 3) (pc := 24) dX1_isBig_24 rfl rfl ?_
          refine g_z_eq (tgt := 48) (pc := 25) dX1_isBig_25 (by omega) (by decide) (fun c25 => absurd c25 (by omega)) (fun c25 => ?_)
          refine g_aload_n (i := 0) (pc := 28) dX1_isBig_28 rfl rfl ?_
          refine g_getf (pc := 29) f_X1_28 dX1_isBig_29 (m_at0 hw) rfl ?_
          refine g_iconst (pc := 32) dX1_isBig_32 ?_
          refine g_iload_n (i := 1) (pc := 33) dX1_isBig_33 rfl rfl ?_
          refine g_imul (pc := 34) dX1_isBig_34 ?_
          refine g_iload_n (i := 2) (pc := 35) dX1_isBig_35 rfl rfl ?_
          refine g_iadd (pc := 36) dX1_isBig_36 ?_
          refine g_ishr (pc := 37) dX1_isBig_37 ?_
          refine g_iconst (pc := 38) dX1_isBig_38 ?_
          refine g_iand (pc := 39) dX1_isBig_39 ?_
          have e9 : b_and (b_shr (mem σ).2.2.2.2.1 (4 * p + g)) 1 = s_bg σ (4 * p + g).toNat := by
            obtain ⟨n, hn⟩ := Int.eq_ofNat_of_zero_le (show 0 ≤ 4 * p + g by omega)
            rw [hn]
            exact z_get hi.2.2.1 (by decide) (by omega)
          refine G.eqS (congrArg (fun z => vI z) e9) ?_
          have x9 := hi.2.2.1 (4 * p + g).toNat
          refine g_iconst (pc := 40) dX1_isBig_40 ?_
          refine g_c_ne (tgt := 48) (pc := 41) dX1_isBig_41 (by omega) (by decide) (fun c41 => ?_) (fun c41 => ?_)
          · skip
            refine g_iconst (pc := 48) dX1_isBig_48 ?_
            refine g_zret (pc := 49) rfl dX1_isBig_49 (by omega) (fun h => h) ?_
            first
            | exact dt_i (b2_t (by simp only [big, decide_eq_true_eq]; omega)).symm rfl
            | exact dt_i (b2_f (by simp only [big, decide_eq_true_eq]; omega)).symm rfl
          · skip
            refine g_iconst (pc := 44) dX1_isBig_44 ?_
            refine g_goto (tgt := 49) (pc := 45) dX1_isBig_45 (by decide) ?_
            refine g_zret (pc := 49) rfl dX1_isBig_49 (by omega) (fun h => h) ?_
            first
            | exact dt_i (b2_t (by simp only [big, decide_eq_true_eq]; omega)).symm rfl
            | exact dt_i (b2_f (by simp only [big, decide_eq_true_eq]; omega)).symm rfl
set_option maxRecDepth 20000 in
set_option maxHeartbeats 4000000 in
theorem t_X1_runOf {w : List MC} {a : Nat} {σ : SG} {al : Bool} (hw : okM w a) (hi : Inv σ) {p g : Int} (h_p : -2147483648 ≤ p ∧ p < 2147483648) (h_g : -536870912 ≤ g ∧ g < 536870912) : GM M_X1_runOf al [vR a, vI p, vI g] (setM w a (mem σ)) 0 0 (dt (some (vI (ro σ p g))) (setM w a (mem σ))) := by
  show G _ none _ _ 0 [some (vR a), some (vI p), some (vI g)] [] _ _ _ _
  refine g_aload_n (i := 0) (pc := 0) dX1_runOf_0 rfl rfl ?_
  refine g_iload_n (i := 1) (pc := 1) dX1_runOf_1 rfl rfl ?_
  refine g_iload_n (i := 2) (pc := 2) dX1_runOf_2 rfl rfl ?_
  refine g_v2 (pc := 3) okV_X1_isBig rfl l_X1_77 dX1_runOf_3 (m_at0 hw) hc_1 (by decide) (by decide) (Nat.le_of_ble_eq_true rfl) (t_X1_isBig hw hi (by omega) (by omega)) (by simp only [m_len]) ?_
  simp only [Option.toList, List.cons_append, List.nil_append]
  have bb := b2_rng (big σ (p) (g))
  refine g_z_eq (tgt := 22) (pc := 6) dX1_runOf_6 (by omega) (by decide) (fun c6 => ?_) (fun c6 => ?_)
  · skip
    refine g_iconst (pc := 22) dX1_runOf_22 ?_
    refine g_iret (pc := 23) rfl dX1_runOf_23 (fun h => h) ?_
    exact dt_i (by unfold ro; rw [if_neg (b2_0.mp (by omega))]) rfl
  · skip
    refine g_aload_n (i := 0) (pc := 9) dX1_runOf_9 rfl rfl ?_
    refine g_iload_n (i := 1) (pc := 10) dX1_runOf_10 rfl rfl ?_
    refine g_iconst (pc := 11) dX1_runOf_11 ?_
    refine g_iload_n (i := 2) (pc := 12) dX1_runOf_12 rfl rfl ?_
    refine g_imul (pc := 13) dX1_runOf_13 ?_
    refine g_v2 (pc := 14) okV_X1_frameOf rfl l_X1_73 dX1_runOf_14 (m_at0 hw) hc_1 (by decide) (by decide) (Nat.le_of_ble_eq_true rfl) (t_X1_frameOf hw hi (by omega) (by omega)) (by simp only [m_len]) ?_
    simp only [Option.toList, List.cons_append, List.nil_append]
    have bb := fo_rng hi (p) ((4 * g))
    refine g_iconst (pc := 17) dX1_runOf_17 ?_
    refine g_idiv (pc := 18) dX1_runOf_18 (by omega) (by omega) ?_
    refine g_goto (tgt := 23) (pc := 19) dX1_runOf_19 (by decide) ?_
    refine g_iret (pc := 23) rfl dX1_runOf_23 (fun h => h) ?_
    exact dt_i (by unfold ro; rw [if_pos (b2_1.mp (by omega))]) rfl
set_option maxRecDepth 20000 in
set_option maxHeartbeats 4000000 in
theorem t_X1_isShared {w : List MC} {a : Nat} {σ : SG} {al : Bool} (hw : okM w a) (hi : Inv σ) {f : Int} (h_f : -1 ≤ f ∧ f < 32) : GM M_X1_isShared al [vR a, vI f] (setM w a (mem σ)) 0 0 (dt (some (vI (b2 (sh σ f)))) (setM w a (mem σ))) := by
  show G _ none _ _ 0 [some (vR a), some (vI f)] [] _ _ _ _
  refine g_iload_n (i := 1) (pc := 0) dX1_isShared_0 rfl rfl ?_
  refine g_iconst (pc := 1) dX1_isShared_1 ?_
  refine g_c_eq (tgt := 19) (pc := 2) dX1_isShared_2 (by omega) (by decide) (fun c2 => ?_) (fun c2 => ?_)
  · skip
    refine g_iconst (pc := 19) dX1_isShared_19 ?_
    refine g_zret (pc := 20) rfl dX1_isShared_20 (by omega) (fun h => h) ?_
    first
    | exact dt_i (b2_t (by simp only [sh, decide_eq_true_eq]; omega)).symm rfl
    | exact dt_i (b2_f (by simp only [sh, decide_eq_true_eq]; omega)).symm rfl
  · skip
    refine g_aload_n (i := 0) (pc := 5) dX1_isShared_5 rfl rfl ?_
    refine g_getf (pc := 6) f_X1_15 dX1_isShared_6 (m_at0 hw) rfl ?_
    refine g_iload_n (i := 1) (pc := 9) dX1_isShared_9 rfl rfl ?_
    refine g_iald (pc := 10) dX1_isShared_10 (m_at2 hw) (by omega) ?_
    have x9 := uses_rng (s_fr σ) f
    have e9 : (mem σ).2.1 f.toNat = uses (s_fr σ) f := by
      show uses (s_fr σ) _ = _
      rw [Int.toNat_of_nonneg (by omega)]
    rw [e9]
    refine g_iconst (pc := 11) dX1_isShared_11 ?_
    refine g_c_le (tgt := 19) (pc := 12) dX1_isShared_12 (by omega) (by decide) (fun c12 => ?_) (fun c12 => ?_)
    · skip
      refine g_iconst (pc := 19) dX1_isShared_19 ?_
      refine g_zret (pc := 20) rfl dX1_isShared_20 (by omega) (fun h => h) ?_
      first
      | exact dt_i (b2_t (by simp only [sh, decide_eq_true_eq]; omega)).symm rfl
      | exact dt_i (b2_f (by simp only [sh, decide_eq_true_eq]; omega)).symm rfl
    · skip
      refine g_iconst (pc := 15) dX1_isShared_15 ?_
      refine g_goto (tgt := 20) (pc := 16) dX1_isShared_16 (by decide) ?_
      refine g_zret (pc := 20) rfl dX1_isShared_20 (by omega) (fun h => h) ?_
      first
      | exact dt_i (b2_t (by simp only [sh, decide_eq_true_eq]; omega)).symm rfl
      | exact dt_i (b2_f (by simp only [sh, decide_eq_true_eq]; omega)).symm rfl
set_option maxRecDepth 20000 in
set_option maxHeartbeats 4000000 in
theorem t_X1_isRunFree {w : List MC} {a : Nat} {σ : SG} {al : Bool} (hw : okM w a) (hi : Inv σ) {r : Int} (h_r : 0 ≤ r ∧ r < 8) : GM M_X1_isRunFree al [vR a, vI r] (setM w a (mem σ)) 0 0 (dt (some (vI (b2 (rf σ r)))) (setM w a (mem σ))) := by
  show G _ none _ _ 0 [some (vR a), some (vI r), none] [] _ _ _ _
  refine g_iconst (pc := 0) dX1_isRunFree_0 ?_
  refine g_istore_n (i := 2) (pc := 1) dX1_isRunFree_1 rfl (by decide) rfl ?_
  simp only [List.set_cons_succ, List.set_cons_zero]
  refine lp_up (P := fun k => (∀ i : Nat, i < k → ¬ 0 < uses (s_fr σ) (4 * r + i)) → G M_X1_isRunFree none al al 2 [some (vR a), some (vI r), some (vI k)] [] (setM w a (mem σ)) 0 0 (dt (some (vI (b2 (rf σ r)))) (setM w a (mem σ)))) 4 ?_ ?_ 0 (Nat.zero_le _) (fun i h => absurd h (Nat.not_lt_zero i))
  · intro hH
    refine g_iload_n (i := 2) (pc := 2) dX1_isRunFree_2 rfl rfl ?_
    refine g_iconst (pc := 3) dX1_isRunFree_3 ?_
    refine g_c_ge (tgt := 28) (pc := 4) dX1_isRunFree_4 (by omega) (by decide) (fun c4 => ?_) (fun c4 => absurd c4 (by omega))
    refine g_iconst (pc := 28) dX1_isRunFree_28 ?_
    refine g_zret (pc := 29) rfl dX1_isRunFree_29 (by omega) (fun h => h) ?_
    refine dt_i (b2_t ?_).symm rfl
    unfold rf
    rw [decide_eq_true_eq, ct_zero]
    intro i h q
    exact hH i h (of_decide_eq_true q)
  · intro k hk ih hH
    refine g_iload_n (i := 2) (pc := 2) dX1_isRunFree_2 rfl rfl ?_
    refine g_iconst (pc := 3) dX1_isRunFree_3 ?_
    refine g_c_ge (tgt := 28) (pc := 4) dX1_isRunFree_4 (by omega) (by decide) (fun c4 => absurd c4 (by omega)) (fun c4 => ?_)
    refine g_aload_n (i := 0) (pc := 7) dX1_isRunFree_7 rfl rfl ?_
    refine g_getf (pc := 8) f_X1_15 dX1_isRunFree_8 (m_at0 hw) rfl ?_
    refine g_iconst (pc := 11) dX1_isRunFree_11 ?_
    refine g_iload_n (i := 1) (pc := 12) dX1_isRunFree_12 rfl rfl ?_
    refine g_imul (pc := 13) dX1_isRunFree_13 ?_
    refine g_iload_n (i := 2) (pc := 14) dX1_isRunFree_14 rfl rfl ?_
    refine g_iadd (pc := 15) dX1_isRunFree_15 ?_
    refine g_iald (pc := 16) dX1_isRunFree_16 (m_at2 hw) (by omega) ?_
    have x9 := uses_rng (s_fr σ) (4 * r + k)
    have e9 : (mem σ).2.1 (4 * r + (k : Int)).toNat = uses (s_fr σ) (4 * r + k) := by
      show uses (s_fr σ) _ = _
      rw [Int.toNat_of_nonneg (by omega)]
    rw [e9]
    refine g_z_le (tgt := 22) (pc := 17) dX1_isRunFree_17 (by omega) (by decide) (fun c17 => ?_) (fun c17 => ?_)
    · skip
      refine g_iinc (pc := 22) dX1_isRunFree_22 rfl (by decide) rfl ?_
      simp only [List.set_cons_succ, List.set_cons_zero]
      refine g_goto (tgt := 2) (pc := 25) dX1_isRunFree_25 (by decide) ?_
      refine ih (fun i h => ?_)
      rcases Nat.lt_or_ge i k with q | q
      · exact hH i q
      · rw [show i = k by omega]; omega
    · skip
      refine g_iconst (pc := 20) dX1_isRunFree_20 ?_
      refine g_zret (pc := 21) rfl dX1_isRunFree_21 (by omega) (fun h => h) ?_
      refine dt_i (b2_f ?_).symm rfl
      unfold rf
      rw [decide_eq_true_eq, ct_zero]
      intro q
      exact q k hk (decide_eq_true (by omega))
set_option maxRecDepth 20000 in
set_option maxHeartbeats 4000000 in
theorem t_X1_lowestFreeRun {w : List MC} {a : Nat} {σ : SG} {al : Bool} (hw : okM w a) (hi : Inv σ) : GM M_X1_lowestFreeRun al [vR a] (setM w a (mem σ)) 0 0 (dt (some (vI (lfr σ))) (setM w a (mem σ))) := by
  show G _ none _ _ 0 [some (vR a), none] [] _ _ _ _
  refine g_iconst (pc := 0) dX1_lowestFreeRun_0 ?_
  refine g_istore_n (i := 1) (pc := 1) dX1_lowestFreeRun_1 rfl (by decide) rfl ?_
  simp only [List.set_cons_succ, List.set_cons_zero]
  refine lp_up (P := fun k => (∀ j : Nat, j < k → ¬ rf σ j = true) → G M_X1_lowestFreeRun none al al 2 [some (vR a), some (vI k)] [] (setM w a (mem σ)) 0 0 (dt (some (vI (lfr σ))) (setM w a (mem σ)))) 8 ?_ ?_ 0 (Nat.zero_le _) (fun i h => absurd h (Nat.not_lt_zero i))
  · intro hH
    refine g_iload_n (i := 1) (pc := 2) dX1_lowestFreeRun_2 rfl rfl ?_
    refine g_bipush (pc := 3) dX1_lowestFreeRun_3 (by decide) ?_
    refine g_c_ge (tgt := 24) (pc := 5) dX1_lowestFreeRun_5 (by omega) (by decide) (fun c5 => ?_) (fun c5 => absurd c5 (by omega))
    refine g_iconst (pc := 24) dX1_lowestFreeRun_24 ?_
    refine g_iret (pc := 25) rfl dX1_lowestFreeRun_25 (fun h => h) ?_
    exact dt_i (ff_none hH).symm rfl
  · intro k hk ih hH
    refine g_iload_n (i := 1) (pc := 2) dX1_lowestFreeRun_2 rfl rfl ?_
    refine g_bipush (pc := 3) dX1_lowestFreeRun_3 (by decide) ?_
    refine g_c_ge (tgt := 24) (pc := 5) dX1_lowestFreeRun_5 (by omega) (by decide) (fun c5 => absurd c5 (by omega)) (fun c5 => ?_)
    refine g_aload_n (i := 0) (pc := 8) dX1_lowestFreeRun_8 rfl rfl ?_
    refine g_iload_n (i := 1) (pc := 9) dX1_lowestFreeRun_9 rfl rfl ?_
    refine g_v1 (pc := 10) okV_X1_isRunFree rfl l_X1_60 dX1_lowestFreeRun_10 (m_at0 hw) hc_1 (by decide) (by decide) (Nat.le_of_ble_eq_true rfl) (t_X1_isRunFree hw hi (by omega)) (by simp only [m_len]) ?_
    simp only [Option.toList, List.cons_append, List.nil_append]
    have bb := b2_rng (rf σ ((k : Int)))
    refine g_z_eq (tgt := 18) (pc := 13) dX1_lowestFreeRun_13 (by omega) (by decide) (fun c13 => ?_) (fun c13 => ?_)
    · skip
      refine g_iinc (pc := 18) dX1_lowestFreeRun_18 rfl (by decide) rfl ?_
      simp only [List.set_cons_succ, List.set_cons_zero]
      refine g_goto (tgt := 2) (pc := 21) dX1_lowestFreeRun_21 (by decide) ?_
      refine ih (fun i h => ?_)
      rcases Nat.lt_or_ge i k with q | q
      · exact hH i q
      · rw [show i = k by omega]; exact b2_0.mp (by omega)
    · skip
      refine g_iload_n (i := 1) (pc := 16) dX1_lowestFreeRun_16 rfl rfl ?_
      refine g_iret (pc := 17) rfl dX1_lowestFreeRun_17 (fun h => h) ?_
      exact dt_i (ff_some (b2_1.mp (by omega)) hH hk).symm rfl
set_option maxRecDepth 20000 in
set_option maxHeartbeats 4000000 in
theorem t_X1_freeFrames {w : List MC} {a : Nat} {σ : SG} {al : Bool} (hw : okM w a) (hi : Inv σ) : GM M_X1_freeFrames al [vR a] (setM w a (mem σ)) 0 0 (dt (some (vI (nff σ))) (setM w a (mem σ))) := by
  show G _ none _ _ 0 [some (vR a), none, none] [] _ _ _ _
  refine g_iconst (pc := 0) dX1_freeFrames_0 ?_
  refine g_istore_n (i := 1) (pc := 1) dX1_freeFrames_1 rfl (by decide) rfl ?_
  simp only [List.set_cons_succ, List.set_cons_zero]
  refine g_iconst (pc := 2) dX1_freeFrames_2 ?_
  refine g_istore_n (i := 2) (pc := 3) dX1_freeFrames_3 rfl (by decide) rfl ?_
  simp only [List.set_cons_succ, List.set_cons_zero]
  refine lp_up (P := fun k => G M_X1_freeFrames none al al 4 [some (vR a), some (vI (ct (fun f => decide (uses (s_fr σ) f = 0)) k)), some (vI k)] [] (setM w a (mem σ)) 0 0 (dt (some (vI (nff σ))) (setM w a (mem σ)))) 32 ?_ ?_ 0 (Nat.zero_le _)
  · show G _ _ _ _ _ _ _ _ _ _ _
    refine g_iload_n (i := 2) (pc := 4) dX1_freeFrames_4 rfl rfl ?_
    refine g_bipush (pc := 5) dX1_freeFrames_5 (by decide) ?_
    refine g_c_ge (tgt := 28) (pc := 7) dX1_freeFrames_7 (by omega) (by decide) (fun c7 => ?_) (fun c7 => absurd c7 (by omega))
    refine g_iload_n (i := 1) (pc := 28) dX1_freeFrames_28 rfl rfl ?_
    refine g_iret (pc := 29) rfl dX1_freeFrames_29 (fun h => h) ?_
    exact dt_i rfl rfl
  · intro k hk ih
    show G _ _ _ _ _ _ _ _ _ _ _
    refine g_iload_n (i := 2) (pc := 4) dX1_freeFrames_4 rfl rfl ?_
    refine g_bipush (pc := 5) dX1_freeFrames_5 (by decide) ?_
    refine g_c_ge (tgt := 28) (pc := 7) dX1_freeFrames_7 (by omega) (by decide) (fun c7 => absurd c7 (by omega)) (fun c7 => ?_)
    refine g_aload_n (i := 0) (pc := 10) dX1_freeFrames_10 rfl rfl ?_
    refine g_getf (pc := 11) f_X1_15 dX1_freeFrames_11 (m_at0 hw) rfl ?_
    refine g_iload_n (i := 2) (pc := 14) dX1_freeFrames_14 rfl rfl ?_
    refine g_iald (pc := 15) dX1_freeFrames_15 (m_at2 hw) (by omega) ?_
    have x9 := uses_rng (s_fr σ) k
    have e9 : (mem σ).2.1 ((k : Int)).toNat = uses (s_fr σ) k := by
      show uses (s_fr σ) _ = _
      rw [Int.toNat_of_nonneg (by omega)]
    rw [e9]
    refine g_z_ne (tgt := 22) (pc := 16) dX1_freeFrames_16 (by omega) (by decide) (fun c16 => ?_) (fun c16 => ?_)
    · skip
      refine g_iinc (pc := 22) dX1_freeFrames_22 rfl (by decide) rfl ?_
      simp only [List.set_cons_succ, List.set_cons_zero]
      refine g_goto (tgt := 4) (pc := 25) dX1_freeFrames_25 (by decide) ?_
      refine G.eqL (congrArg (fun z => [some (vR a), some (vI z), some (vI ((k : Int) + 1))]) ?_) ih
      exact (ct_no (by simp only [decide_eq_true_eq]; exact c16)).symm
    · skip
      refine g_iinc (pc := 19) dX1_freeFrames_19 rfl (by decide) rfl ?_
      simp only [List.set_cons_succ, List.set_cons_zero]
      refine g_iinc (pc := 22) dX1_freeFrames_22 rfl (by decide) rfl ?_
      simp only [List.set_cons_succ, List.set_cons_zero]
      refine g_goto (tgt := 4) (pc := 25) dX1_freeFrames_25 (by decide) ?_
      refine G.eqL (congrArg (fun z => [some (vR a), some (vI z), some (vI ((k : Int) + 1))]) ?_) ih
      exact (ct_yes (by simp only [decide_eq_true_eq]; exact c16)).symm
set_option maxRecDepth 20000 in
set_option maxHeartbeats 4000000 in
theorem t_X1_sharedFrames {w : List MC} {a : Nat} {σ : SG} {al : Bool} (hw : okM w a) (hi : Inv σ) : GM M_X1_sharedFrames al [vR a] (setM w a (mem σ)) 0 0 (dt (some (vI (nsf σ))) (setM w a (mem σ))) := by
  show G _ none _ _ 0 [some (vR a), none, none] [] _ _ _ _
  refine g_iconst (pc := 0) dX1_sharedFrames_0 ?_
  refine g_istore_n (i := 1) (pc := 1) dX1_sharedFrames_1 rfl (by decide) rfl ?_
  simp only [List.set_cons_succ, List.set_cons_zero]
  refine g_iconst (pc := 2) dX1_sharedFrames_2 ?_
  refine g_istore_n (i := 2) (pc := 3) dX1_sharedFrames_3 rfl (by decide) rfl ?_
  simp only [List.set_cons_succ, List.set_cons_zero]
  refine lp_up (P := fun k => G M_X1_sharedFrames none al al 4 [some (vR a), some (vI (ct (fun f => sh σ f) k)), some (vI k)] [] (setM w a (mem σ)) 0 0 (dt (some (vI (nsf σ))) (setM w a (mem σ)))) 32 ?_ ?_ 0 (Nat.zero_le _)
  · show G _ _ _ _ _ _ _ _ _ _ _
    refine g_iload_n (i := 2) (pc := 4) dX1_sharedFrames_4 rfl rfl ?_
    refine g_bipush (pc := 5) dX1_sharedFrames_5 (by decide) ?_
    refine g_c_ge (tgt := 27) (pc := 7) dX1_sharedFrames_7 (by omega) (by decide) (fun c7 => ?_) (fun c7 => absurd c7 (by omega))
    refine g_iload_n (i := 1) (pc := 27) dX1_sharedFrames_27 rfl rfl ?_
    refine g_iret (pc := 28) rfl dX1_sharedFrames_28 (fun h => h) ?_
    exact dt_i rfl rfl
  · intro k hk ih
    show G _ _ _ _ _ _ _ _ _ _ _
    refine g_iload_n (i := 2) (pc := 4) dX1_sharedFrames_4 rfl rfl ?_
    refine g_bipush (pc := 5) dX1_sharedFrames_5 (by decide) ?_
    refine g_c_ge (tgt := 27) (pc := 7) dX1_sharedFrames_7 (by omega) (by decide) (fun c7 => absurd c7 (by omega)) (fun c7 => ?_)
    refine g_aload_n (i := 0) (pc := 10) dX1_sharedFrames_10 rfl rfl ?_
    refine g_iload_n (i := 2) (pc := 11) dX1_sharedFrames_11 rfl rfl ?_
    refine g_v1 (pc := 12) okV_X1_isShared rfl l_X1_57 dX1_sharedFrames_12 (m_at0 hw) hc_1 (by decide) (by decide) (Nat.le_of_ble_eq_true rfl) (t_X1_isShared hw hi (by omega)) (by simp only [m_len]) ?_
    simp only [Option.toList, List.cons_append, List.nil_append]
    have bb := b2_rng (sh σ ((k : Int)))
    refine g_z_eq (tgt := 21) (pc := 15) dX1_sharedFrames_15 (by omega) (by decide) (fun c15 => ?_) (fun c15 => ?_)
    · skip
      refine g_iinc (pc := 21) dX1_sharedFrames_21 rfl (by decide) rfl ?_
      simp only [List.set_cons_succ, List.set_cons_zero]
      refine g_goto (tgt := 4) (pc := 24) dX1_sharedFrames_24 (by decide) ?_
      refine G.eqL (congrArg (fun z => [some (vR a), some (vI z), some (vI ((k : Int) + 1))]) ?_) ih
      exact (ct_no (b2_0.mp (by omega))).symm
    · skip
      refine g_iinc (pc := 18) dX1_sharedFrames_18 rfl (by decide) rfl ?_
      simp only [List.set_cons_succ, List.set_cons_zero]
      refine g_iinc (pc := 21) dX1_sharedFrames_21 rfl (by decide) rfl ?_
      simp only [List.set_cons_succ, List.set_cons_zero]
      refine g_goto (tgt := 4) (pc := 24) dX1_sharedFrames_24 (by decide) ?_
      refine G.eqL (congrArg (fun z => [some (vR a), some (vI z), some (vI ((k : Int) + 1))]) ?_) ih
      exact (ct_yes (b2_1.mp (by omega))).symm
set_option maxRecDepth 20000 in
set_option maxHeartbeats 4000000 in
theorem t_X1_freeRuns {w : List MC} {a : Nat} {σ : SG} {al : Bool} (hw : okM w a) (hi : Inv σ) : GM M_X1_freeRuns al [vR a] (setM w a (mem σ)) 0 0 (dt (some (vI (nfr σ))) (setM w a (mem σ))) := by
  show G _ none _ _ 0 [some (vR a), none, none] [] _ _ _ _
  refine g_iconst (pc := 0) dX1_freeRuns_0 ?_
  refine g_istore_n (i := 1) (pc := 1) dX1_freeRuns_1 rfl (by decide) rfl ?_
  simp only [List.set_cons_succ, List.set_cons_zero]
  refine g_iconst (pc := 2) dX1_freeRuns_2 ?_
  refine g_istore_n (i := 2) (pc := 3) dX1_freeRuns_3 rfl (by decide) rfl ?_
  simp only [List.set_cons_succ, List.set_cons_zero]
  refine lp_up (P := fun k => G M_X1_freeRuns none al al 4 [some (vR a), some (vI (ct (fun r => rf σ r) k)), some (vI k)] [] (setM w a (mem σ)) 0 0 (dt (some (vI (nfr σ))) (setM w a (mem σ)))) 8 ?_ ?_ 0 (Nat.zero_le _)
  · show G _ _ _ _ _ _ _ _ _ _ _
    refine g_iload_n (i := 2) (pc := 4) dX1_freeRuns_4 rfl rfl ?_
    refine g_bipush (pc := 5) dX1_freeRuns_5 (by decide) ?_
    refine g_c_ge (tgt := 27) (pc := 7) dX1_freeRuns_7 (by omega) (by decide) (fun c7 => ?_) (fun c7 => absurd c7 (by omega))
    refine g_iload_n (i := 1) (pc := 27) dX1_freeRuns_27 rfl rfl ?_
    refine g_iret (pc := 28) rfl dX1_freeRuns_28 (fun h => h) ?_
    exact dt_i rfl rfl
  · intro k hk ih
    show G _ _ _ _ _ _ _ _ _ _ _
    refine g_iload_n (i := 2) (pc := 4) dX1_freeRuns_4 rfl rfl ?_
    refine g_bipush (pc := 5) dX1_freeRuns_5 (by decide) ?_
    refine g_c_ge (tgt := 27) (pc := 7) dX1_freeRuns_7 (by omega) (by decide) (fun c7 => absurd c7 (by omega)) (fun c7 => ?_)
    refine g_aload_n (i := 0) (pc := 10) dX1_freeRuns_10 rfl rfl ?_
    refine g_iload_n (i := 2) (pc := 11) dX1_freeRuns_11 rfl rfl ?_
    refine g_v1 (pc := 12) okV_X1_isRunFree rfl l_X1_60 dX1_freeRuns_12 (m_at0 hw) hc_1 (by decide) (by decide) (Nat.le_of_ble_eq_true rfl) (t_X1_isRunFree hw hi (by omega)) (by simp only [m_len]) ?_
    simp only [Option.toList, List.cons_append, List.nil_append]
    have bb := b2_rng (rf σ ((k : Int)))
    refine g_z_eq (tgt := 21) (pc := 15) dX1_freeRuns_15 (by omega) (by decide) (fun c15 => ?_) (fun c15 => ?_)
    · skip
      refine g_iinc (pc := 21) dX1_freeRuns_21 rfl (by decide) rfl ?_
      simp only [List.set_cons_succ, List.set_cons_zero]
      refine g_goto (tgt := 4) (pc := 24) dX1_freeRuns_24 (by decide) ?_
      refine G.eqL (congrArg (fun z => [some (vR a), some (vI z), some (vI ((k : Int) + 1))]) ?_) ih
      exact (ct_no (b2_0.mp (by omega))).symm
    · skip
      refine g_iinc (pc := 18) dX1_freeRuns_18 rfl (by decide) rfl ?_
      simp only [List.set_cons_succ, List.set_cons_zero]
      refine g_iinc (pc := 21) dX1_freeRuns_21 rfl (by decide) rfl ?_
      simp only [List.set_cons_succ, List.set_cons_zero]
      refine g_goto (tgt := 4) (pc := 24) dX1_freeRuns_24 (by decide) ?_
      refine G.eqL (congrArg (fun z => [some (vR a), some (vI z), some (vI ((k : Int) + 1))]) ?_) ih
      exact (ct_yes (b2_1.mp (by omega))).symm
set_option maxRecDepth 20000 in
set_option maxHeartbeats 4000000 in
theorem t_X1_pagesWithFrame {w : List MC} {a : Nat} {σ : SG} {al : Bool} (hw : okM w a) (hi : Inv σ) {p g : Int} (h_p : -2147483648 ≤ p ∧ p < 2147483648) (h_g : -536870000 ≤ g ∧ g < 536870000) : GM M_X1_pagesWithFrame al [vR a, vI p, vI g] (setM w a (mem σ)) 0 0 (dt (some (vI (pf σ p g))) (setM w a (mem σ))) := by
  show G _ none _ _ 0 [some (vR a), some (vI p), some (vI g), none, none] [] _ _ _ _
  refine g_iconst (pc := 0) dX1_pagesWithFrame_0 ?_
  refine g_istore_n (i := 3) (pc := 1) dX1_pagesWithFrame_1 rfl (by decide) rfl ?_
  simp only [List.set_cons_succ, List.set_cons_zero]
  refine g_iconst (pc := 2) dX1_pagesWithFrame_2 ?_
  refine g_istore (pc := 3) dX1_pagesWithFrame_3 (by decide) rfl ?_
  simp only [List.set_cons_succ, List.set_cons_zero]
  refine lp_up (P := fun k => G M_X1_pagesWithFrame none al al 5 [some (vR a), some (vI p), some (vI g), some (vI (ct (fun i => decide (fo σ p (4 * g + i) ≠ -1)) k)), some (vI k)] [] (setM w a (mem σ)) 0 0 (dt (some (vI (pf σ p g))) (setM w a (mem σ)))) 4 ?_ ?_ 0 (Nat.zero_le _)
  · show G _ _ _ _ _ _ _ _ _ _ _
    refine g_iload (pc := 5) dX1_pagesWithFrame_5 rfl ?_
    refine g_iconst (pc := 7) dX1_pagesWithFrame_7 ?_
    refine g_c_ge (tgt := 35) (pc := 8) dX1_pagesWithFrame_8 (by omega) (by decide) (fun c8 => ?_) (fun c8 => absurd c8 (by omega))
    refine g_iload_n (i := 3) (pc := 35) dX1_pagesWithFrame_35 rfl rfl ?_
    refine g_iret (pc := 36) rfl dX1_pagesWithFrame_36 (fun h => h) ?_
    exact dt_i rfl rfl
  · intro k hk ih
    show G _ _ _ _ _ _ _ _ _ _ _
    refine g_iload (pc := 5) dX1_pagesWithFrame_5 rfl ?_
    refine g_iconst (pc := 7) dX1_pagesWithFrame_7 ?_
    refine g_c_ge (tgt := 35) (pc := 8) dX1_pagesWithFrame_8 (by omega) (by decide) (fun c8 => absurd c8 (by omega)) (fun c8 => ?_)
    refine g_aload_n (i := 0) (pc := 11) dX1_pagesWithFrame_11 rfl rfl ?_
    refine g_iload_n (i := 1) (pc := 12) dX1_pagesWithFrame_12 rfl rfl ?_
    refine g_iconst (pc := 13) dX1_pagesWithFrame_13 ?_
    refine g_iload_n (i := 2) (pc := 14) dX1_pagesWithFrame_14 rfl rfl ?_
    refine g_imul (pc := 15) dX1_pagesWithFrame_15 ?_
    refine g_iload (pc := 16) dX1_pagesWithFrame_16 rfl ?_
    refine g_iadd (pc := 18) dX1_pagesWithFrame_18 ?_
    refine g_v2 (pc := 19) okV_X1_frameOf rfl l_X1_73 dX1_pagesWithFrame_19 (m_at0 hw) hc_1 (by decide) (by decide) (Nat.le_of_ble_eq_true rfl) (t_X1_frameOf hw hi (by omega) (by omega)) (by simp only [m_len]) ?_
    simp only [Option.toList, List.cons_append, List.nil_append]
    have bb := fo_rng hi (p) (((4 * g) + (k : Int)))
    refine g_iconst (pc := 22) dX1_pagesWithFrame_22 ?_
    refine g_c_eq (tgt := 29) (pc := 23) dX1_pagesWithFrame_23 (by omega) (by decide) (fun c23 => ?_) (fun c23 => ?_)
    · skip
      refine g_iinc (pc := 29) dX1_pagesWithFrame_29 rfl (by decide) rfl ?_
      simp only [List.set_cons_succ, List.set_cons_zero]
      refine g_goto (tgt := 5) (pc := 32) dX1_pagesWithFrame_32 (by decide) ?_
      refine G.eqL (congrArg (fun z => [some (vR a), some (vI p), some (vI g), some (vI z), some (vI ((k : Int) + 1))]) ?_) ih
      exact (ct_no (by simp only [decide_eq_true_eq]; omega)).symm
    · skip
      refine g_iinc (pc := 26) dX1_pagesWithFrame_26 rfl (by decide) rfl ?_
      simp only [List.set_cons_succ, List.set_cons_zero]
      refine g_iinc (pc := 29) dX1_pagesWithFrame_29 rfl (by decide) rfl ?_
      simp only [List.set_cons_succ, List.set_cons_zero]
      refine g_goto (tgt := 5) (pc := 32) dX1_pagesWithFrame_32 (by decide) ?_
      refine G.eqL (congrArg (fun z => [some (vR a), some (vI p), some (vI g), some (vI z), some (vI ((k : Int) + 1))]) ?_) ih
      exact (ct_yes (by simp only [decide_eq_true_eq]; omega)).symm
set_option maxRecDepth 20000 in
set_option maxHeartbeats 4000000 in
theorem t_X1_pagesWithSharedFrame {w : List MC} {a : Nat} {σ : SG} {al : Bool} (hw : okM w a) (hi : Inv σ) {p g : Int} (h_p : -2147483648 ≤ p ∧ p < 2147483648) (h_g : -536870000 ≤ g ∧ g < 536870000) : GM M_X1_pagesWithSharedFrame al [vR a, vI p, vI g] (setM w a (mem σ)) 0 0 (dt (some (vI (ps σ p g))) (setM w a (mem σ))) := by
  show G _ none _ _ 0 [some (vR a), some (vI p), some (vI g), none, none] [] _ _ _ _
  refine g_iconst (pc := 0) dX1_pagesWithSharedFrame_0 ?_
  refine g_istore_n (i := 3) (pc := 1) dX1_pagesWithSharedFrame_1 rfl (by decide) rfl ?_
  simp only [List.set_cons_succ, List.set_cons_zero]
  refine g_iconst (pc := 2) dX1_pagesWithSharedFrame_2 ?_
  refine g_istore (pc := 3) dX1_pagesWithSharedFrame_3 (by decide) rfl ?_
  simp only [List.set_cons_succ, List.set_cons_zero]
  refine lp_up (P := fun k => G M_X1_pagesWithSharedFrame none al al 5 [some (vR a), some (vI p), some (vI g), some (vI (ct (fun i => sh σ (fo σ p (4 * g + i))) k)), some (vI k)] [] (setM w a (mem σ)) 0 0 (dt (some (vI (ps σ p g))) (setM w a (mem σ)))) 4 ?_ ?_ 0 (Nat.zero_le _)
  · show G _ _ _ _ _ _ _ _ _ _ _
    refine g_iload (pc := 5) dX1_pagesWithSharedFrame_5 rfl ?_
    refine g_iconst (pc := 7) dX1_pagesWithSharedFrame_7 ?_
    refine g_c_ge (tgt := 38) (pc := 8) dX1_pagesWithSharedFrame_8 (by omega) (by decide) (fun c8 => ?_) (fun c8 => absurd c8 (by omega))
    refine g_iload_n (i := 3) (pc := 38) dX1_pagesWithSharedFrame_38 rfl rfl ?_
    refine g_iret (pc := 39) rfl dX1_pagesWithSharedFrame_39 (fun h => h) ?_
    exact dt_i rfl rfl
  · intro k hk ih
    show G _ _ _ _ _ _ _ _ _ _ _
    refine g_iload (pc := 5) dX1_pagesWithSharedFrame_5 rfl ?_
    refine g_iconst (pc := 7) dX1_pagesWithSharedFrame_7 ?_
    refine g_c_ge (tgt := 38) (pc := 8) dX1_pagesWithSharedFrame_8 (by omega) (by decide) (fun c8 => absurd c8 (by omega)) (fun c8 => ?_)
    refine g_aload_n (i := 0) (pc := 11) dX1_pagesWithSharedFrame_11 rfl rfl ?_
    refine g_aload_n (i := 0) (pc := 12) dX1_pagesWithSharedFrame_12 rfl rfl ?_
    refine g_iload_n (i := 1) (pc := 13) dX1_pagesWithSharedFrame_13 rfl rfl ?_
    refine g_iconst (pc := 14) dX1_pagesWithSharedFrame_14 ?_
    refine g_iload_n (i := 2) (pc := 15) dX1_pagesWithSharedFrame_15 rfl rfl ?_
    refine g_imul (pc := 16) dX1_pagesWithSharedFrame_16 ?_
    refine g_iload (pc := 17) dX1_pagesWithSharedFrame_17 rfl ?_
    refine g_iadd (pc := 19) dX1_pagesWithSharedFrame_19 ?_
    refine g_v2 (pc := 20) okV_X1_frameOf rfl l_X1_73 dX1_pagesWithSharedFrame_20 (m_at0 hw) hc_1 (by decide) (by decide) (Nat.le_of_ble_eq_true rfl) (t_X1_frameOf hw hi (by omega) (by omega)) (by simp only [m_len]) ?_
    simp only [Option.toList, List.cons_append, List.nil_append]
    have bb := fo_rng hi (p) (((4 * g) + (k : Int)))
    refine g_v1 (pc := 23) okV_X1_isShared rfl l_X1_57 dX1_pagesWithSharedFrame_23 (m_at0 hw) hc_1 (by decide) (by decide) (Nat.le_of_ble_eq_true rfl) (t_X1_isShared hw hi (by omega)) (by simp only [m_len]) ?_
    simp only [Option.toList, List.cons_append, List.nil_append]
    have bb := b2_rng (sh σ ((fo σ (p) (((4 * g) + (k : Int))))))
    refine g_z_eq (tgt := 32) (pc := 26) dX1_pagesWithSharedFrame_26 (by omega) (by decide) (fun c26 => ?_) (fun c26 => ?_)
    · skip
      refine g_iinc (pc := 32) dX1_pagesWithSharedFrame_32 rfl (by decide) rfl ?_
      simp only [List.set_cons_succ, List.set_cons_zero]
      refine g_goto (tgt := 5) (pc := 35) dX1_pagesWithSharedFrame_35 (by decide) ?_
      refine G.eqL (congrArg (fun z => [some (vR a), some (vI p), some (vI g), some (vI z), some (vI ((k : Int) + 1))]) ?_) ih
      exact (ct_no (b2_0.mp (by omega))).symm
    · skip
      refine g_iinc (pc := 29) dX1_pagesWithSharedFrame_29 rfl (by decide) rfl ?_
      simp only [List.set_cons_succ, List.set_cons_zero]
      refine g_iinc (pc := 32) dX1_pagesWithSharedFrame_32 rfl (by decide) rfl ?_
      simp only [List.set_cons_succ, List.set_cons_zero]
      refine g_goto (tgt := 5) (pc := 35) dX1_pagesWithSharedFrame_35 (by decide) ?_
      refine G.eqL (congrArg (fun z => [some (vR a), some (vI p), some (vI g), some (vI z), some (vI ((k : Int) + 1))]) ?_) ih
      exact (ct_yes (b2_1.mp (by omega))).symm
set_option maxRecDepth 20000 in
set_option maxHeartbeats 4000000 in
theorem t_X1_pagesWithValueZero {w : List MC} {a : Nat} {σ : SG} {al : Bool} (hw : okM w a) (hi : Inv σ) {p g : Int} (h_p : -2147483648 ≤ p ∧ p < 2147483648) (h_g : -536870000 ≤ g ∧ g < 536870000) : GM M_X1_pagesWithValueZero al [vR a, vI p, vI g] (setM w a (mem σ)) 0 0 (dt (some (vI (pz σ p g))) (setM w a (mem σ))) := by
  show G _ none _ _ 0 [some (vR a), some (vI p), some (vI g), none, none] [] _ _ _ _
  refine g_iconst (pc := 0) dX1_pagesWithValueZero_0 ?_
  refine g_istore_n (i := 3) (pc := 1) dX1_pagesWithValueZero_1 rfl (by decide) rfl ?_
  simp only [List.set_cons_succ, List.set_cons_zero]
  refine g_iconst (pc := 2) dX1_pagesWithValueZero_2 ?_
  refine g_istore (pc := 3) dX1_pagesWithValueZero_3 (by decide) rfl ?_
  simp only [List.set_cons_succ, List.set_cons_zero]
  refine lp_up (P := fun k => G M_X1_pagesWithValueZero none al al 5 [some (vR a), some (vI p), some (vI g), some (vI (ct (fun i => decide (vo σ p (4 * g + i) = 0)) k)), some (vI k)] [] (setM w a (mem σ)) 0 0 (dt (some (vI (pz σ p g))) (setM w a (mem σ)))) 4 ?_ ?_ 0 (Nat.zero_le _)
  · show G _ _ _ _ _ _ _ _ _ _ _
    refine g_iload (pc := 5) dX1_pagesWithValueZero_5 rfl ?_
    refine g_iconst (pc := 7) dX1_pagesWithValueZero_7 ?_
    refine g_c_ge (tgt := 34) (pc := 8) dX1_pagesWithValueZero_8 (by omega) (by decide) (fun c8 => ?_) (fun c8 => absurd c8 (by omega))
    refine g_iload_n (i := 3) (pc := 34) dX1_pagesWithValueZero_34 rfl rfl ?_
    refine g_iret (pc := 35) rfl dX1_pagesWithValueZero_35 (fun h => h) ?_
    exact dt_i rfl rfl
  · intro k hk ih
    show G _ _ _ _ _ _ _ _ _ _ _
    refine g_iload (pc := 5) dX1_pagesWithValueZero_5 rfl ?_
    refine g_iconst (pc := 7) dX1_pagesWithValueZero_7 ?_
    refine g_c_ge (tgt := 34) (pc := 8) dX1_pagesWithValueZero_8 (by omega) (by decide) (fun c8 => absurd c8 (by omega)) (fun c8 => ?_)
    refine g_aload_n (i := 0) (pc := 11) dX1_pagesWithValueZero_11 rfl rfl ?_
    refine g_iload_n (i := 1) (pc := 12) dX1_pagesWithValueZero_12 rfl rfl ?_
    refine g_iconst (pc := 13) dX1_pagesWithValueZero_13 ?_
    refine g_iload_n (i := 2) (pc := 14) dX1_pagesWithValueZero_14 rfl rfl ?_
    refine g_imul (pc := 15) dX1_pagesWithValueZero_15 ?_
    refine g_iload (pc := 16) dX1_pagesWithValueZero_16 rfl ?_
    refine g_iadd (pc := 18) dX1_pagesWithValueZero_18 ?_
    refine g_v2 (pc := 19) okV_X1_valueOf rfl l_X1_89 dX1_pagesWithValueZero_19 (m_at0 hw) hc_1 (by decide) (by decide) (Nat.le_of_ble_eq_true rfl) (t_X1_valueOf hw hi (by omega) (by omega)) (by simp only [m_len]) ?_
    simp only [Option.toList, List.cons_append, List.nil_append]
    have bb := vo_rng hi (p) (((4 * g) + (k : Int)))
    refine g_z_ne (tgt := 28) (pc := 22) dX1_pagesWithValueZero_22 (by omega) (by decide) (fun c22 => ?_) (fun c22 => ?_)
    · skip
      refine g_iinc (pc := 28) dX1_pagesWithValueZero_28 rfl (by decide) rfl ?_
      simp only [List.set_cons_succ, List.set_cons_zero]
      refine g_goto (tgt := 5) (pc := 31) dX1_pagesWithValueZero_31 (by decide) ?_
      refine G.eqL (congrArg (fun z => [some (vR a), some (vI p), some (vI g), some (vI z), some (vI ((k : Int) + 1))]) ?_) ih
      exact (ct_no (by simp only [decide_eq_true_eq]; omega)).symm
    · skip
      refine g_iinc (pc := 25) dX1_pagesWithValueZero_25 rfl (by decide) rfl ?_
      simp only [List.set_cons_succ, List.set_cons_zero]
      refine g_iinc (pc := 28) dX1_pagesWithValueZero_28 rfl (by decide) rfl ?_
      simp only [List.set_cons_succ, List.set_cons_zero]
      refine g_goto (tgt := 5) (pc := 31) dX1_pagesWithValueZero_31 (by decide) ?_
      refine G.eqL (congrArg (fun z => [some (vR a), some (vI p), some (vI g), some (vI z), some (vI ((k : Int) + 1))]) ?_) ih
      exact (ct_yes (by simp only [decide_eq_true_eq]; omega)).symm
