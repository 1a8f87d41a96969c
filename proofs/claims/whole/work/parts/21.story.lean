/-! THE STORY (printed by wip/whole/cls1.py, but for the first rows) -/
section ST
def sn (f : Nat → Int) (n i : Int) : Int := if 0 ≤ i ∧ i < n then f i.toNat else 0
theorem sn_rng {f : Nat → Int} (h : ∀ k, 0 ≤ f k ∧ f k < 256) (n i : Int) : 0 ≤ sn f n i ∧ sn f n i < 256 := by
  unfold sn
  split
  · exact h _
  · omega
def dg (f : Nat → Int) (n i : Int) : Int := if 48 ≤ sn f n i ∧ sn f n i ≤ 57 then sn f n i - 48 else -1
theorem dg_rng (f : Nat → Int) (n i : Int) : -1 ≤ dg f n i ∧ dg f n i ≤ 9 := by unfold dg; split <;> omega
def nu (f : Nat → Int) (n i : Int) : Int := if dg f n i = -1 ∨ dg f n (i + 1) = -1 then -1 else 10 * dg f n i + dg f n (i + 1)
theorem nu_rng (f : Nat → Int) (n i : Int) : -1 ≤ nu f n i ∧ nu f n i ≤ 99 := by
  have h1 := dg_rng f n i
  have h2 := dg_rng f n (i + 1)
  unfold nu
  split <;> omega
def db (c : Int) : Int := if c = 119 then 5 else if c = 109 then 2 else if c = 102 ∨ c = 120 then 1 else if c = 101 then 0 else -1
theorem db_rng (c : Int) : -1 ≤ db c ∧ db c ≤ 5 := by unfold db; (repeat' split) <;> omega
def hg (f : Nat → Int) (n b i : Int) : Int := if sn f n b ≠ 119 ∨ i - b = 1 then 3 else if i - b = 2 then 1 else if i - b = 3 ∧ sn f n (i - 1) = 49 then 5 else 9
theorem hg_rng (f : Nat → Int) (n b i : Int) : 1 ≤ hg f n b i ∧ hg f n b i ≤ 9 := by unfold hg; (repeat' split) <;> omega
def ald (f : Nat → Int) (n b i : Int) : Bool := decide (dg f n i ≠ -1 ∧ dg f n i ≤ hg f n b i)
/-- the first error so far, where the last command begins, how many digits it wants -/
def sc (f : Nat → Int) (n : Int) : Nat → Int × Int × Int
  | 0 => (-1, 0, 0)
  | k + 1 => if (sc f n k).1 ≠ -1 then sc f n k else if 0 < (sc f n k).2.2 then (if ald f n (sc f n k).2.1 ((k : Int) + 1) = true then (-1, (sc f n k).2.1, (sc f n k).2.2 - 1) else ((k : Int) + 1, 0, 0)) else if db (sn f n ((k : Int) + 1)) = -1 then ((k : Int) + 1, 0, 0) else (-1, (k : Int) + 1, db (sn f n ((k : Int) + 1)))
theorem sc_rng (f : Nat → Int) (n : Int) : ∀ k : Nat, (-1 ≤ (sc f n k).1 ∧ (sc f n k).1 ≤ k) ∧ (0 ≤ (sc f n k).2.1 ∧ (sc f n k).2.1 ≤ k) ∧ 0 ≤ (sc f n k).2.2 ∧ (sc f n k).2.2 ≤ 5
  | 0 => by simp [sc]
  | k + 1 => by
    have h1 := sc_rng f n k
    have h2 := db_rng (sn f n ((k : Int) + 1))
    rw [sc]
    (repeat' split) <;> (try dsimp only) <;> omega
theorem sc_err {f : Nat → Int} {n : Int} {k : Nat} (h : (sc f n k).1 ≠ -1) : ∀ d : Nat, sc f n (k + d) = sc f n k
  | 0 => rfl
  | d + 1 => by
    show sc f n ((k + d) + 1) = _
    rw [sc, sc_err h d, if_pos h]
def fe (f : Nat → Int) (n : Int) : Int := if sn f n 0 ≠ 77 then 0 else if (sc f n (n - 1).toNat).1 ≠ -1 then (sc f n (n - 1).toNat).1 else if 0 < (sc f n (n - 1).toNat).2.2 then n else -1
theorem fe_err {f : Nat → Int} {n : Int} {k : Nat} (hM : sn f n 0 = 77) (hk : (k : Int) < n) (h : (sc f n k).1 ≠ -1) : fe f n = (sc f n k).1 := by
  have e := sc_err h ((n - 1).toNat - k)
  rw [show k + ((n - 1).toNat - k) = (n - 1).toNat by omega] at e
  unfold fe
  rw [if_neg (by omega), e, if_pos h]
theorem fe_rng {f : Nat → Int} {n : Int} (hn : 0 ≤ n) : -1 ≤ fe f n ∧ fe f n ≤ n := by
  have h := sc_rng f n (n - 1).toNat
  unfold fe
  by_cases q : sn f n 0 = 77
  · have hL1 : 1 ≤ n := by
      rcases (by omega : 1 ≤ n ∨ n = 0) with z | z
      · exact z
      · unfold sn at q
        rw [if_neg (by omega)] at q
        omega
    (repeat' split) <;> omega
  · rw [if_pos q]; omega
set_option maxRecDepth 20000 in
set_option maxHeartbeats 4000000 in
theorem t_X2_length {κ : KT} {δ : DT} {o : Nat → Int} {al : Bool} (hK : KInv κ) : GM M_X2_length al [vR 1] (cW κ δ o) 0 0 (dt (some (vI (k_ln κ))) (cW (κ) δ o)) := by
  show G _ none _ _ 0 [some (vR 1)] [] _ _ _ _
  refine g_aload_n (i := 0) (pc := 0) dX2_length_0 rfl rfl ?_
  refine g_getf (pc := 1) f_X2_15 dX2_length_1 (c_1) rfl ?_
  refine g_iret (pc := 4) rfl dX2_length_4 (fun h => h) ?_
  exact dt_i rfl rfl
set_option maxRecDepth 20000 in
set_option maxHeartbeats 4000000 in
theorem t_X2_empty {κ : KT} {δ : DT} {o : Nat → Int} {al : Bool} (hK : KInv κ) : GM M_X2_empty al [vR 1] (cW κ δ o) 0 0 (dt (some (vI (k_ln κ))) (cW (k_setln κ 0) δ o)) := by
  show G _ none _ _ 0 [some (vR 1), none] [] _ _ _ _
  refine g_aload_n (i := 0) (pc := 0) dX2_empty_0 rfl rfl ?_
  refine g_getf (pc := 1) f_X2_15 dX2_empty_1 (c_1) rfl ?_
  refine g_istore_n (i := 1) (pc := 4) dX2_empty_4 rfl (by decide) rfl ?_
  simp only [List.set_cons_succ, List.set_cons_zero]
  refine g_aload_n (i := 0) (pc := 5) dX2_empty_5 rfl rfl ?_
  refine g_iconst (pc := 6) dX2_empty_6 ?_
  refine g_put (pc := 7) ft_X2_15 dX2_empty_7 (c_1) (Nat.le_of_ble_eq_true rfl) (fun _ => rfl) (fun _ => rfl) (fun h => nomatch h) ?_
  refine G.eqw w_ln ?_
  refine g_iload_n (i := 1) (pc := 10) dX2_empty_10 rfl rfl ?_
  refine g_iret (pc := 11) rfl dX2_empty_11 (fun h => h) ?_
  exact dt_i rfl rfl
set_option maxRecDepth 20000 in
set_option maxHeartbeats 4000000 in
theorem t_X2_add {κ : KT} {δ : DT} {o : Nat → Int} {al : Bool} (hK : KInv κ) {x : Int} (h_x : 0 ≤ x ∧ x < 256) : GM M_X2_add al [vR 1, vI x] (cW κ δ o) 0 0 (dt (some (vI (if k_ln κ < 100 then k_ln κ + 1 else k_ln κ))) (cW (if k_ln κ < 100 then k_setln (k_setsg κ (va_up (k_sg κ) (k_ln κ).toNat x)) (k_ln κ + 1) else κ) δ o)) := by
  show G _ none _ _ 0 [some (vR 1), some (vI x)] [] _ _ _ _
  have hL := hK.2.1
  refine g_aload_n (i := 0) (pc := 0) dX2_add_0 rfl rfl ?_
  refine g_getf (pc := 1) f_X2_15 dX2_add_1 (c_1) rfl ?_
  refine g_bipush (pc := 4) dX2_add_4 (by decide) ?_
  refine g_c_ge (tgt := 29) (pc := 6) dX2_add_6 (by omega) (by decide) (fun c6 => ?_) (fun c6 => ?_)
  · skip
    refine g_aload_n (i := 0) (pc := 29) dX2_add_29 rfl rfl ?_
    refine g_getf (pc := 30) f_X2_15 dX2_add_30 (c_1) rfl ?_
    refine g_iret (pc := 33) rfl dX2_add_33 (fun h => h) ?_
    first
    | (rw [if_pos (show k_ln κ < 100 by omega), if_pos (show k_ln κ < 100 by omega)]; exact dt_i rfl rfl)
    | (rw [if_neg (show ¬ k_ln κ < 100 by omega), if_neg (show ¬ k_ln κ < 100 by omega)]; exact dt_i rfl rfl)
  · skip
    refine g_aload_n (i := 0) (pc := 9) dX2_add_9 rfl rfl ?_
    refine g_getf (pc := 10) f_X2_9 dX2_add_10 (c_1) rfl ?_
    refine g_aload_n (i := 0) (pc := 13) dX2_add_13 rfl rfl ?_
    refine g_getf (pc := 14) f_X2_15 dX2_add_14 (c_1) rfl ?_
    refine g_iload_n (i := 1) (pc := 17) dX2_add_17 rfl rfl ?_
    refine g_cstore (pc := 18) dX2_add_18 (c_2) (by omega) (by omega) ?_
    refine G.eqw w_sg ?_
    refine g_aload_n (i := 0) (pc := 19) dX2_add_19 rfl rfl ?_
    refine g_dup (pc := 20) dX2_add_20 (fun z h => nomatch h) ?_
    refine g_getf (pc := 21) f_X2_15 dX2_add_21 (c_1) rfl ?_
    refine g_iconst (pc := 24) dX2_add_24 ?_
    refine g_iadd (pc := 25) dX2_add_25 ?_
    refine g_put (pc := 26) ft_X2_15 dX2_add_26 (c_1) (Nat.le_of_ble_eq_true rfl) (fun _ => rfl) (fun _ => rfl) (fun h => nomatch h) ?_
    refine G.eqw w_ln ?_
    refine g_aload_n (i := 0) (pc := 29) dX2_add_29 rfl rfl ?_
    refine g_getf (pc := 30) f_X2_15 dX2_add_30 (c_1) rfl ?_
    refine g_iret (pc := 33) rfl dX2_add_33 (fun h => h) ?_
    first
    | (rw [if_pos (show k_ln κ < 100 by omega), if_pos (show k_ln κ < 100 by omega)]; exact dt_i rfl rfl)
    | (rw [if_neg (show ¬ k_ln κ < 100 by omega), if_neg (show ¬ k_ln κ < 100 by omega)]; exact dt_i rfl rfl)
set_option maxRecDepth 20000 in
set_option maxHeartbeats 4000000 in
theorem t_X2_sign {κ : KT} {δ : DT} {o : Nat → Int} {al : Bool} (hK : KInv κ) {i : Int} (h_i : -1000000 ≤ i ∧ i < 1000000) : GM M_X2_sign al [vR 1, vI i] (cW κ δ o) 0 0 (dt (some (vI (sn (k_sg κ) (k_ln κ) i))) (cW (κ) δ o)) := by
  show G _ none _ _ 0 [some (vR 1), some (vI i)] [] _ _ _ _
  have hL := hK.2.1
  have hG := hK.1 i.toNat
  refine g_iload_n (i := 1) (pc := 0) dX2_sign_0 rfl rfl ?_
  refine g_z_lt (tgt := 21) (pc := 1) dX2_sign_1 (by omega) (by decide) (fun c1 => ?_) (fun c1 => ?_)
  · skip
    refine g_iconst (pc := 21) dX2_sign_21 ?_
    refine g_cret (pc := 22) rfl dX2_sign_22 (by omega) (fun h => h) ?_
    first
    | (refine dt_i ?_ rfl; unfold sn; rw [if_pos (by omega)]; done)
    | (refine dt_i ?_ rfl; unfold sn; rw [if_neg (by omega)])
  · skip
    refine g_iload_n (i := 1) (pc := 4) dX2_sign_4 rfl rfl ?_
    refine g_aload_n (i := 0) (pc := 5) dX2_sign_5 rfl rfl ?_
    refine g_getf (pc := 6) f_X2_15 dX2_sign_6 (c_1) rfl ?_
    refine g_c_ge (tgt := 21) (pc := 9) dX2_sign_9 (by omega) (by decide) (fun c9 => ?_) (fun c9 => ?_)
    · skip
      refine g_iconst (pc := 21) dX2_sign_21 ?_
      refine g_cret (pc := 22) rfl dX2_sign_22 (by omega) (fun h => h) ?_
      first
      | (refine dt_i ?_ rfl; unfold sn; rw [if_pos (by omega)]; done)
      | (refine dt_i ?_ rfl; unfold sn; rw [if_neg (by omega)])
    · skip
      refine g_aload_n (i := 0) (pc := 12) dX2_sign_12 rfl rfl ?_
      refine g_getf (pc := 13) f_X2_9 dX2_sign_13 (c_1) rfl ?_
      refine g_iload_n (i := 1) (pc := 16) dX2_sign_16 rfl rfl ?_
      refine g_cald (pc := 17) dX2_sign_17 (c_2) (by omega) ?_
      refine g_goto (tgt := 22) (pc := 18) dX2_sign_18 (by decide) ?_
      refine g_cret (pc := 22) rfl dX2_sign_22 (by omega) (fun h => h) ?_
      first
      | (refine dt_i ?_ rfl; unfold sn; rw [if_pos (by omega)]; done)
      | (refine dt_i ?_ rfl; unfold sn; rw [if_neg (by omega)])
set_option maxRecDepth 20000 in
set_option maxHeartbeats 4000000 in
theorem t_X2_digit {κ : KT} {δ : DT} {o : Nat → Int} {al : Bool} (hK : KInv κ) {i : Int} (h_i : -1000000 ≤ i ∧ i < 1000000) : GM M_X2_digit al [vR 1, vI i] (cW κ δ o) 0 0 (dt (some (vI (dg (k_sg κ) (k_ln κ) i))) (cW (κ) δ o)) := by
  show G _ none _ _ 0 [some (vR 1), some (vI i), none] [] _ _ _ _
  refine g_aload_n (i := 0) (pc := 0) dX2_digit_0 rfl rfl ?_
  refine g_iload_n (i := 1) (pc := 1) dX2_digit_1 rfl rfl ?_
  refine g_v1 (pc := 2) okV_X2_sign rfl l_X2_19 dX2_digit_2 (c_1) hc_2 (by decide) (by decide) (Nat.le_of_ble_eq_true rfl) (t_X2_sign hK (by omega)) rfl ?_
  simp only [Option.toList, List.cons_append, List.nil_append]
  have bb := sn_rng hK.1 (k_ln (κ)) (i)
  refine g_istore_n (i := 2) (pc := 5) dX2_digit_5 rfl (by decide) rfl ?_
  simp only [List.set_cons_succ, List.set_cons_zero]
  refine g_iload_n (i := 2) (pc := 6) dX2_digit_6 rfl rfl ?_
  refine g_bipush (pc := 7) dX2_digit_7 (by decide) ?_
  refine g_c_lt (tgt := 25) (pc := 9) dX2_digit_9 (by omega) (by decide) (fun c9 => ?_) (fun c9 => ?_)
  · skip
    refine g_iconst (pc := 25) dX2_digit_25 ?_
    refine g_iret (pc := 26) rfl dX2_digit_26 (fun h => h) ?_
    first
    | (refine dt_i ?_ rfl; unfold dg; rw [if_pos (by omega)]; done)
    | (refine dt_i ?_ rfl; unfold dg; rw [if_neg (by omega)])
  · skip
    refine g_iload_n (i := 2) (pc := 12) dX2_digit_12 rfl rfl ?_
    refine g_bipush (pc := 13) dX2_digit_13 (by decide) ?_
    refine g_c_gt (tgt := 25) (pc := 15) dX2_digit_15 (by omega) (by decide) (fun c15 => ?_) (fun c15 => ?_)
    · skip
      refine g_iconst (pc := 25) dX2_digit_25 ?_
      refine g_iret (pc := 26) rfl dX2_digit_26 (fun h => h) ?_
      first
      | (refine dt_i ?_ rfl; unfold dg; rw [if_pos (by omega)]; done)
      | (refine dt_i ?_ rfl; unfold dg; rw [if_neg (by omega)])
    · skip
      refine g_iload_n (i := 2) (pc := 18) dX2_digit_18 rfl rfl ?_
      refine g_bipush (pc := 19) dX2_digit_19 (by decide) ?_
      refine g_isub (pc := 21) dX2_digit_21 ?_
      refine g_goto (tgt := 26) (pc := 22) dX2_digit_22 (by decide) ?_
      refine g_iret (pc := 26) rfl dX2_digit_26 (fun h => h) ?_
      first
      | (refine dt_i ?_ rfl; unfold dg; rw [if_pos (by omega)]; done)
      | (refine dt_i ?_ rfl; unfold dg; rw [if_neg (by omega)])
set_option maxRecDepth 20000 in
set_option maxHeartbeats 4000000 in
theorem t_X2_number {κ : KT} {δ : DT} {o : Nat → Int} {al : Bool} (hK : KInv κ) {i : Int} (h_i : -900000 ≤ i ∧ i < 900000) : GM M_X2_number al [vR 1, vI i] (cW κ δ o) 0 0 (dt (some (vI (nu (k_sg κ) (k_ln κ) i))) (cW (κ) δ o)) := by
  show G _ none _ _ 0 [some (vR 1), some (vI i), none, none] [] _ _ _ _
  refine g_aload_n (i := 0) (pc := 0) dX2_number_0 rfl rfl ?_
  refine g_iload_n (i := 1) (pc := 1) dX2_number_1 rfl rfl ?_
  refine g_v1 (pc := 2) okV_X2_digit rfl l_X2_23 dX2_number_2 (c_1) hc_2 (by decide) (by decide) (Nat.le_of_ble_eq_true rfl) (t_X2_digit hK (by omega)) rfl ?_
  simp only [Option.toList, List.cons_append, List.nil_append]
  have bb := dg_rng (k_sg (κ)) (k_ln (κ)) (i)
  refine g_istore_n (i := 2) (pc := 5) dX2_number_5 rfl (by decide) rfl ?_
  simp only [List.set_cons_succ, List.set_cons_zero]
  refine g_aload_n (i := 0) (pc := 6) dX2_number_6 rfl rfl ?_
  refine g_iload_n (i := 1) (pc := 7) dX2_number_7 rfl rfl ?_
  refine g_iconst (pc := 8) dX2_number_8 ?_
  refine g_iadd (pc := 9) dX2_number_9 ?_
  refine g_v1 (pc := 10) okV_X2_digit rfl l_X2_23 dX2_number_10 (c_1) hc_2 (by decide) (by decide) (Nat.le_of_ble_eq_true rfl) (t_X2_digit hK (by omega)) rfl ?_
  simp only [Option.toList, List.cons_append, List.nil_append]
  have bb := dg_rng (k_sg (κ)) (k_ln (κ)) ((i + 1))
  refine g_istore_n (i := 3) (pc := 13) dX2_number_13 rfl (by decide) rfl ?_
  simp only [List.set_cons_succ, List.set_cons_zero]
  refine g_iload_n (i := 2) (pc := 14) dX2_number_14 rfl rfl ?_
  refine g_iconst (pc := 15) dX2_number_15 ?_
  refine g_c_eq (tgt := 24) (pc := 16) dX2_number_16 (by omega) (by decide) (fun c16 => ?_) (fun c16 => ?_)
  · skip
    refine g_iconst (pc := 24) dX2_number_24 ?_
    refine g_goto (tgt := 34) (pc := 25) dX2_number_25 (by decide) ?_
    refine g_iret (pc := 34) rfl dX2_number_34 (fun h => h) ?_
    first
    | (refine dt_i ?_ rfl; unfold nu; rw [if_pos (by omega)]; done)
    | (refine dt_i ?_ rfl; unfold nu; rw [if_neg (by omega)])
  · skip
    refine g_iload_n (i := 3) (pc := 19) dX2_number_19 rfl rfl ?_
    refine g_iconst (pc := 20) dX2_number_20 ?_
    refine g_c_ne (tgt := 28) (pc := 21) dX2_number_21 (by omega) (by decide) (fun c21 => ?_) (fun c21 => ?_)
    · skip
      refine g_bipush (pc := 28) dX2_number_28 (by decide) ?_
      refine g_iload_n (i := 2) (pc := 30) dX2_number_30 rfl rfl ?_
      refine g_imul (pc := 31) dX2_number_31 ?_
      refine g_iload_n (i := 3) (pc := 32) dX2_number_32 rfl rfl ?_
      refine g_iadd (pc := 33) dX2_number_33 ?_
      refine g_iret (pc := 34) rfl dX2_number_34 (fun h => h) ?_
      first
      | (refine dt_i ?_ rfl; unfold nu; rw [if_pos (by omega)]; done)
      | (refine dt_i ?_ rfl; unfold nu; rw [if_neg (by omega)])
    · skip
      refine g_iconst (pc := 24) dX2_number_24 ?_
      refine g_goto (tgt := 34) (pc := 25) dX2_number_25 (by decide) ?_
      refine g_iret (pc := 34) rfl dX2_number_34 (fun h => h) ?_
      first
      | (refine dt_i ?_ rfl; unfold nu; rw [if_pos (by omega)]; done)
      | (refine dt_i ?_ rfl; unfold nu; rw [if_neg (by omega)])
set_option maxRecDepth 20000 in
set_option maxHeartbeats 4000000 in
theorem t_X2_digitsBehind {w : List MC} {c : Int} {al : Bool} (h_c : 0 ≤ c ∧ c < 65536) : GM M_X2_digitsBehind al [vI c] (w) 0 0 (dt (some (vI (db c))) w) := by
  show G _ none _ _ 0 [some (vI c)] [] _ _ _ _
  refine g_iload_n (i := 0) (pc := 0) dX2_digitsBehind_0 rfl rfl ?_
  rcases (by omega : c = 101 ∨ c = 102 ∨ c = 109 ∨ c = 119 ∨ c = 120 ∨ (¬ 101 = c ∧ ¬ 102 = c ∧ ¬ 109 = c ∧ ¬ 119 = c ∧ ¬ 120 = c)) with ew1 | ew1 | ew1 | ew1 | ew1 | ⟨ew1_101, ew1_102, ew1_109, ew1_119, ew1_120⟩
  · refine g_ls (off := 57) (tgt := 58) (pc := 1) dX2_digitsBehind_1 (by omega) (by decide) (by rw [ew1]; rfl) (by decide) ?_
    refine g_iconst (pc := 58) dX2_digitsBehind_58 ?_
    refine g_iret (pc := 59) rfl dX2_digitsBehind_59 (fun h => h) ?_
    refine dt_i ?_ rfl
    unfold db
    first
    | (rw [if_pos (by omega)]; done)
    | (rw [if_neg (by omega), if_pos (by omega)]; done)
    | (rw [if_neg (by omega), if_neg (by omega), if_pos (by omega)]; done)
    | (rw [if_neg (by omega), if_neg (by omega), if_neg (by omega), if_pos (by omega)]; done)
    | rw [if_neg (by omega), if_neg (by omega), if_neg (by omega), if_neg (by omega)]
  · refine g_ls (off := 55) (tgt := 56) (pc := 1) dX2_digitsBehind_1 (by omega) (by decide) (by rw [ew1]; rfl) (by decide) ?_
    refine g_iconst (pc := 56) dX2_digitsBehind_56 ?_
    refine g_iret (pc := 57) rfl dX2_digitsBehind_57 (fun h => h) ?_
    refine dt_i ?_ rfl
    unfold db
    first
    | (rw [if_pos (by omega)]; done)
    | (rw [if_neg (by omega), if_pos (by omega)]; done)
    | (rw [if_neg (by omega), if_neg (by omega), if_pos (by omega)]; done)
    | (rw [if_neg (by omega), if_neg (by omega), if_neg (by omega), if_pos (by omega)]; done)
    | rw [if_neg (by omega), if_neg (by omega), if_neg (by omega), if_neg (by omega)]
  · refine g_ls (off := 53) (tgt := 54) (pc := 1) dX2_digitsBehind_1 (by omega) (by decide) (by rw [ew1]; rfl) (by decide) ?_
    refine g_iconst (pc := 54) dX2_digitsBehind_54 ?_
    refine g_iret (pc := 55) rfl dX2_digitsBehind_55 (fun h => h) ?_
    refine dt_i ?_ rfl
    unfold db
    first
    | (rw [if_pos (by omega)]; done)
    | (rw [if_neg (by omega), if_pos (by omega)]; done)
    | (rw [if_neg (by omega), if_neg (by omega), if_pos (by omega)]; done)
    | (rw [if_neg (by omega), if_neg (by omega), if_neg (by omega), if_pos (by omega)]; done)
    | rw [if_neg (by omega), if_neg (by omega), if_neg (by omega), if_neg (by omega)]
  · refine g_ls (off := 51) (tgt := 52) (pc := 1) dX2_digitsBehind_1 (by omega) (by decide) (by rw [ew1]; rfl) (by decide) ?_
    refine g_iconst (pc := 52) dX2_digitsBehind_52 ?_
    refine g_iret (pc := 53) rfl dX2_digitsBehind_53 (fun h => h) ?_
    refine dt_i ?_ rfl
    unfold db
    first
    | (rw [if_pos (by omega)]; done)
    | (rw [if_neg (by omega), if_pos (by omega)]; done)
    | (rw [if_neg (by omega), if_neg (by omega), if_pos (by omega)]; done)
    | (rw [if_neg (by omega), if_neg (by omega), if_neg (by omega), if_pos (by omega)]; done)
    | rw [if_neg (by omega), if_neg (by omega), if_neg (by omega), if_neg (by omega)]
  · refine g_ls (off := 55) (tgt := 56) (pc := 1) dX2_digitsBehind_1 (by omega) (by decide) (by rw [ew1]; rfl) (by decide) ?_
    refine g_iconst (pc := 56) dX2_digitsBehind_56 ?_
    refine g_iret (pc := 57) rfl dX2_digitsBehind_57 (fun h => h) ?_
    refine dt_i ?_ rfl
    unfold db
    first
    | (rw [if_pos (by omega)]; done)
    | (rw [if_neg (by omega), if_pos (by omega)]; done)
    | (rw [if_neg (by omega), if_neg (by omega), if_pos (by omega)]; done)
    | (rw [if_neg (by omega), if_neg (by omega), if_neg (by omega), if_pos (by omega)]; done)
    | rw [if_neg (by omega), if_neg (by omega), if_neg (by omega), if_neg (by omega)]
  · refine g_ls (off := 59) (tgt := 60) (pc := 1) dX2_digitsBehind_1 (by omega) (by decide) ?_ (by decide) ?_
    · simp only [Op.lookupswitch.offset_cons, Op.lookupswitch.offset_nil, if_neg ew1_101, if_neg ew1_102, if_neg ew1_109, if_neg ew1_119, if_neg ew1_120]
    refine g_iconst (pc := 60) dX2_digitsBehind_60 ?_
    refine g_iret (pc := 61) rfl dX2_digitsBehind_61 (fun h => h) ?_
    refine dt_i ?_ rfl
    unfold db
    first
    | (rw [if_pos (by omega)]; done)
    | (rw [if_neg (by omega), if_pos (by omega)]; done)
    | (rw [if_neg (by omega), if_neg (by omega), if_pos (by omega)]; done)
    | (rw [if_neg (by omega), if_neg (by omega), if_neg (by omega), if_pos (by omega)]; done)
    | rw [if_neg (by omega), if_neg (by omega), if_neg (by omega), if_neg (by omega)]
set_option maxRecDepth 20000 in
set_option maxHeartbeats 4000000 in
theorem t_X2_highestDigit {κ : KT} {δ : DT} {o : Nat → Int} {al : Bool} (hK : KInv κ) {b i : Int} (h_b : -900000 ≤ b ∧ b < 900000) (h_i : -900000 ≤ i ∧ i < 900000) : GM M_X2_highestDigit al [vR 1, vI b, vI i] (cW κ δ o) 0 0 (dt (some (vI (hg (k_sg κ) (k_ln κ) b i))) (cW (κ) δ o)) := by
  show G _ none _ _ 0 [some (vR 1), some (vI b), some (vI i), none] [] _ _ _ _
  refine g_iload_n (i := 2) (pc := 0) dX2_highestDigit_0 rfl rfl ?_
  refine g_iload_n (i := 1) (pc := 1) dX2_highestDigit_1 rfl rfl ?_
  refine g_isub (pc := 2) dX2_highestDigit_2 ?_
  refine g_istore_n (i := 3) (pc := 3) dX2_highestDigit_3 rfl (by decide) rfl ?_
  simp only [List.set_cons_succ, List.set_cons_zero]
  refine g_aload_n (i := 0) (pc := 4) dX2_highestDigit_4 rfl rfl ?_
  refine g_iload_n (i := 1) (pc := 5) dX2_highestDigit_5 rfl rfl ?_
  refine g_v1 (pc := 6) okV_X2_sign rfl l_X2_19 dX2_highestDigit_6 (c_1) hc_2 (by decide) (by decide) (Nat.le_of_ble_eq_true rfl) (t_X2_sign hK (by omega)) rfl ?_
  simp only [Option.toList, List.cons_append, List.nil_append]
  have bb := sn_rng hK.1 (k_ln (κ)) (b)
  refine g_bipush (pc := 9) dX2_highestDigit_9 (by decide) ?_
  refine g_c_ne (tgt := 19) (pc := 11) dX2_highestDigit_11 (by omega) (by decide) (fun c11 => ?_) (fun c11 => ?_)
  · skip
    refine g_iconst (pc := 19) dX2_highestDigit_19 ?_
    refine g_iret (pc := 20) rfl dX2_highestDigit_20 (fun h => h) ?_
    refine dt_i ?_ rfl
    unfold hg
    first
    | (rw [if_pos (by omega)]; done)
    | (rw [if_neg (by omega), if_pos (by omega)]; done)
    | (rw [if_neg (by omega), if_neg (by omega), if_pos (by omega)]; done)
    | rw [if_neg (by omega), if_neg (by omega), if_neg (by omega)]
  · skip
    refine g_iload_n (i := 3) (pc := 14) dX2_highestDigit_14 rfl rfl ?_
    refine g_iconst (pc := 15) dX2_highestDigit_15 ?_
    refine g_c_ne (tgt := 21) (pc := 16) dX2_highestDigit_16 (by omega) (by decide) (fun c16 => ?_) (fun c16 => ?_)
    · skip
      refine g_iload_n (i := 3) (pc := 21) dX2_highestDigit_21 rfl rfl ?_
      refine g_iconst (pc := 22) dX2_highestDigit_22 ?_
      refine g_c_ne (tgt := 28) (pc := 23) dX2_highestDigit_23 (by omega) (by decide) (fun c23 => ?_) (fun c23 => ?_)
      · skip
        refine g_iload_n (i := 3) (pc := 28) dX2_highestDigit_28 rfl rfl ?_
        refine g_iconst (pc := 29) dX2_highestDigit_29 ?_
        refine g_c_ne (tgt := 49) (pc := 30) dX2_highestDigit_30 (by omega) (by decide) (fun c30 => ?_) (fun c30 => ?_)
        · skip
          refine g_bipush (pc := 49) dX2_highestDigit_49 (by decide) ?_
          refine g_iret (pc := 51) rfl dX2_highestDigit_51 (fun h => h) ?_
          refine dt_i ?_ rfl
          unfold hg
          first
          | (rw [if_pos (by omega)]; done)
          | (rw [if_neg (by omega), if_pos (by omega)]; done)
          | (rw [if_neg (by omega), if_neg (by omega), if_pos (by omega)]; done)
          | rw [if_neg (by omega), if_neg (by omega), if_neg (by omega)]
        · skip
          refine g_aload_n (i := 0) (pc := 33) dX2_highestDigit_33 rfl rfl ?_
          refine g_iload_n (i := 2) (pc := 34) dX2_highestDigit_34 rfl rfl ?_
          refine g_iconst (pc := 35) dX2_highestDigit_35 ?_
          refine g_isub (pc := 36) dX2_highestDigit_36 ?_
          refine g_v1 (pc := 37) okV_X2_sign rfl l_X2_19 dX2_highestDigit_37 (c_1) hc_2 (by decide) (by decide) (Nat.le_of_ble_eq_true rfl) (t_X2_sign hK (by omega)) rfl ?_
          simp only [Option.toList, List.cons_append, List.nil_append]
          have bb := sn_rng hK.1 (k_ln (κ)) ((i - 1))
          refine g_bipush (pc := 40) dX2_highestDigit_40 (by decide) ?_
          refine g_c_ne (tgt := 49) (pc := 42) dX2_highestDigit_42 (by omega) (by decide) (fun c42 => ?_) (fun c42 => ?_)
          · skip
            refine g_bipush (pc := 49) dX2_highestDigit_49 (by decide) ?_
            refine g_iret (pc := 51) rfl dX2_highestDigit_51 (fun h => h) ?_
            refine dt_i ?_ rfl
            unfold hg
            first
            | (rw [if_pos (by omega)]; done)
            | (rw [if_neg (by omega), if_pos (by omega)]; done)
            | (rw [if_neg (by omega), if_neg (by omega), if_pos (by omega)]; done)
            | rw [if_neg (by omega), if_neg (by omega), if_neg (by omega)]
          · skip
            refine g_iconst (pc := 45) dX2_highestDigit_45 ?_
            refine g_goto (tgt := 51) (pc := 46) dX2_highestDigit_46 (by decide) ?_
            refine g_iret (pc := 51) rfl dX2_highestDigit_51 (fun h => h) ?_
            refine dt_i ?_ rfl
            unfold hg
            first
            | (rw [if_pos (by omega)]; done)
            | (rw [if_neg (by omega), if_pos (by omega)]; done)
            | (rw [if_neg (by omega), if_neg (by omega), if_pos (by omega)]; done)
            | rw [if_neg (by omega), if_neg (by omega), if_neg (by omega)]
      · skip
        refine g_iconst (pc := 26) dX2_highestDigit_26 ?_
        refine g_iret (pc := 27) rfl dX2_highestDigit_27 (fun h => h) ?_
        refine dt_i ?_ rfl
        unfold hg
        first
        | (rw [if_pos (by omega)]; done)
        | (rw [if_neg (by omega), if_pos (by omega)]; done)
        | (rw [if_neg (by omega), if_neg (by omega), if_pos (by omega)]; done)
        | rw [if_neg (by omega), if_neg (by omega), if_neg (by omega)]
    · skip
      refine g_iconst (pc := 19) dX2_highestDigit_19 ?_
      refine g_iret (pc := 20) rfl dX2_highestDigit_20 (fun h => h) ?_
      refine dt_i ?_ rfl
      unfold hg
      first
      | (rw [if_pos (by omega)]; done)
      | (rw [if_neg (by omega), if_pos (by omega)]; done)
      | (rw [if_neg (by omega), if_neg (by omega), if_pos (by omega)]; done)
      | rw [if_neg (by omega), if_neg (by omega), if_neg (by omega)]
set_option maxRecDepth 20000 in
set_option maxHeartbeats 4000000 in
theorem t_X2_isAllowedDigit {κ : KT} {δ : DT} {o : Nat → Int} {al : Bool} (hK : KInv κ) {b i : Int} (h_b : -900000 ≤ b ∧ b < 900000) (h_i : -900000 ≤ i ∧ i < 900000) : GM M_X2_isAllowedDigit al [vR 1, vI b, vI i] (cW κ δ o) 0 0 (dt (some (vI (b2 (ald (k_sg κ) (k_ln κ) b i)))) (cW (κ) δ o)) := by
  show G _ none _ _ 0 [some (vR 1), some (vI b), some (vI i), none] [] _ _ _ _
  refine g_aload_n (i := 0) (pc := 0) dX2_isAllowedDigit_0 rfl rfl ?_
  refine g_iload_n (i := 2) (pc := 1) dX2_isAllowedDigit_1 rfl rfl ?_
  refine g_v1 (pc := 2) okV_X2_digit rfl l_X2_23 dX2_isAllowedDigit_2 (c_1) hc_2 (by decide) (by decide) (Nat.le_of_ble_eq_true rfl) (t_X2_digit hK (by omega)) rfl ?_
  simp only [Option.toList, List.cons_append, List.nil_append]
  have bb := dg_rng (k_sg (κ)) (k_ln (κ)) (i)
  refine g_istore_n (i := 3) (pc := 5) dX2_isAllowedDigit_5 rfl (by decide) rfl ?_
  simp only [List.set_cons_succ, List.set_cons_zero]
  refine g_iload_n (i := 3) (pc := 6) dX2_isAllowedDigit_6 rfl rfl ?_
  refine g_iconst (pc := 7) dX2_isAllowedDigit_7 ?_
  refine g_c_eq (tgt := 25) (pc := 8) dX2_isAllowedDigit_8 (by omega) (by decide) (fun c8 => ?_) (fun c8 => ?_)
  · skip
    refine g_iconst (pc := 25) dX2_isAllowedDigit_25 ?_
    refine g_zret (pc := 26) rfl dX2_isAllowedDigit_26 (by omega) (fun h => h) ?_
    first
    | exact dt_i (b2_t (by unfold ald; rw [decide_eq_true_eq]; omega)).symm rfl
    | exact dt_i (b2_f (by unfold ald; rw [decide_eq_true_eq]; omega)).symm rfl
  · skip
    refine g_iload_n (i := 3) (pc := 11) dX2_isAllowedDigit_11 rfl rfl ?_
    refine g_aload_n (i := 0) (pc := 12) dX2_isAllowedDigit_12 rfl rfl ?_
    refine g_iload_n (i := 1) (pc := 13) dX2_isAllowedDigit_13 rfl rfl ?_
    refine g_iload_n (i := 2) (pc := 14) dX2_isAllowedDigit_14 rfl rfl ?_
    refine g_v2 (pc := 15) okV_X2_highestDigit rfl l_X2_35 dX2_isAllowedDigit_15 (c_1) hc_2 (by decide) (by decide) (Nat.le_of_ble_eq_true rfl) (t_X2_highestDigit hK (by omega) (by omega)) rfl ?_
    simp only [Option.toList, List.cons_append, List.nil_append]
    have bb := hg_rng (k_sg (κ)) (k_ln (κ)) (b) (i)
    refine g_c_gt (tgt := 25) (pc := 18) dX2_isAllowedDigit_18 (by omega) (by decide) (fun c18 => ?_) (fun c18 => ?_)
    · skip
      refine g_iconst (pc := 25) dX2_isAllowedDigit_25 ?_
      refine g_zret (pc := 26) rfl dX2_isAllowedDigit_26 (by omega) (fun h => h) ?_
      first
      | exact dt_i (b2_t (by unfold ald; rw [decide_eq_true_eq]; omega)).symm rfl
      | exact dt_i (b2_f (by unfold ald; rw [decide_eq_true_eq]; omega)).symm rfl
    · skip
      refine g_iconst (pc := 21) dX2_isAllowedDigit_21 ?_
      refine g_goto (tgt := 26) (pc := 22) dX2_isAllowedDigit_22 (by decide) ?_
      refine g_zret (pc := 26) rfl dX2_isAllowedDigit_26 (by omega) (fun h => h) ?_
      first
      | exact dt_i (b2_t (by unfold ald; rw [decide_eq_true_eq]; omega)).symm rfl
      | exact dt_i (b2_f (by unfold ald; rw [decide_eq_true_eq]; omega)).symm rfl
set_option maxRecDepth 20000 in
set_option maxHeartbeats 4000000 in
theorem t_X2_firstError {κ : KT} {δ : DT} {o : Nat → Int} {al : Bool} (hK : KInv κ) : GM M_X2_firstError al [vR 1] (cW κ δ o) 0 0 (dt (some (vI (fe (k_sg κ) (k_ln κ)))) (cW (κ) δ o)) := by
  show G _ none _ _ 0 [some (vR 1), none, none, none] [] _ _ _ _
  have hL := hK.2.1
  refine g_aload_n (i := 0) (pc := 0) dX2_firstError_0 rfl rfl ?_
  refine g_iconst (pc := 1) dX2_firstError_1 ?_
  refine g_v1 (pc := 2) okV_X2_sign rfl l_X2_19 dX2_firstError_2 (c_1) hc_2 (by decide) (by decide) (Nat.le_of_ble_eq_true rfl) (t_X2_sign hK (by omega)) rfl ?_
  simp only [Option.toList, List.cons_append, List.nil_append]
  have bb := sn_rng hK.1 (k_ln (κ)) (0)
  refine g_bipush (pc := 5) dX2_firstError_5 (by decide) ?_
  refine g_c_eq (tgt := 12) (pc := 7) dX2_firstError_7 (by omega) (by decide) (fun c7 => ?_) (fun c7 => ?_)
  · skip
    have hM : sn (k_sg κ) (k_ln κ) 0 = 77 := by omega
    have hL1 : 1 ≤ k_ln κ := by
      rcases (by omega : 1 ≤ k_ln κ ∨ k_ln κ = 0) with q | q
      · exact q
      · unfold sn at hM
        rw [if_neg (by omega)] at hM
        omega
    have hfe : ∀ k : Nat, (k : Int) < k_ln κ → (sc (k_sg κ) (k_ln κ) k).1 ≠ -1 → fe (k_sg κ) (k_ln κ) = (sc (k_sg κ) (k_ln κ) k).1 := fun k hk he => fe_err hM hk he
    refine g_iconst (pc := 12) dX2_firstError_12 ?_
    refine g_istore_n (i := 1) (pc := 13) dX2_firstError_13 rfl (by decide) rfl ?_
    simp only [List.set_cons_succ, List.set_cons_zero]
    refine g_iconst (pc := 14) dX2_firstError_14 ?_
    refine g_istore_n (i := 2) (pc := 15) dX2_firstError_15 rfl (by decide) rfl ?_
    simp only [List.set_cons_succ, List.set_cons_zero]
    refine g_iconst (pc := 16) dX2_firstError_16 ?_
    refine g_istore_n (i := 3) (pc := 17) dX2_firstError_17 rfl (by decide) rfl ?_
    simp only [List.set_cons_succ, List.set_cons_zero]
    refine lp_up (P := fun k => (sc (k_sg κ) (k_ln κ) k).1 = -1 → G M_X2_firstError none al al 18 [some (vR 1), some (vI (sc (k_sg κ) (k_ln κ) k).2.1), some (vI (sc (k_sg κ) (k_ln κ) k).2.2), some (vI ((k : Int) + 1))] [] (cW κ δ o) 0 0 (dt (some (vI (fe (k_sg κ) (k_ln κ)))) (cW (κ) δ o))) (k_ln κ - 1).toNat ?_ ?_ 0 (Nat.zero_le _) rfl
    · intro hH
      have y9 := sc_rng (k_sg κ) (k_ln κ) (k_ln κ - 1).toNat
      show G _ _ _ _ _ _ _ _ _ _ _
      refine g_iload_n (i := 3) (pc := 18) dX2_firstError_18 rfl rfl ?_
      refine g_aload_n (i := 0) (pc := 19) dX2_firstError_19 rfl rfl ?_
      refine g_getf (pc := 20) f_X2_15 dX2_firstError_20 (c_1) rfl ?_
      refine g_c_ge (tgt := 71) (pc := 23) dX2_firstError_23 (by omega) (by decide) (fun c23 => ?_) (fun c23 => absurd c23 (by omega))
      refine g_iload_n (i := 2) (pc := 71) dX2_firstError_71 rfl rfl ?_
      refine g_z_le (tgt := 82) (pc := 72) dX2_firstError_72 (by omega) (by decide) (fun c72 => ?_) (fun c72 => ?_)
      · skip
        refine g_iconst (pc := 82) dX2_firstError_82 ?_
        refine g_iret (pc := 83) rfl dX2_firstError_83 (fun h => h) ?_
        refine dt_i ?_ rfl
        unfold fe
        rw [if_neg (by omega), if_neg (by omega)]
        first
        | (rw [if_pos (by omega)]; done)
        | rw [if_neg (by omega)]
      · skip
        refine g_aload_n (i := 0) (pc := 75) dX2_firstError_75 rfl rfl ?_
        refine g_getf (pc := 76) f_X2_15 dX2_firstError_76 (c_1) rfl ?_
        refine g_goto (tgt := 83) (pc := 79) dX2_firstError_79 (by decide) ?_
        refine g_iret (pc := 83) rfl dX2_firstError_83 (fun h => h) ?_
        refine dt_i ?_ rfl
        unfold fe
        rw [if_neg (by omega), if_neg (by omega)]
        first
        | (rw [if_pos (by omega)]; done)
        | rw [if_neg (by omega)]
    · intro k hk ih hH
      have y9 := sc_rng (k_sg κ) (k_ln κ) k
      show G _ _ _ _ _ _ _ _ _ _ _
      refine g_iload_n (i := 3) (pc := 18) dX2_firstError_18 rfl rfl ?_
      refine g_aload_n (i := 0) (pc := 19) dX2_firstError_19 rfl rfl ?_
      refine g_getf (pc := 20) f_X2_15 dX2_firstError_20 (c_1) rfl ?_
      refine g_c_ge (tgt := 71) (pc := 23) dX2_firstError_23 (by omega) (by decide) (fun c23 => absurd c23 (by omega)) (fun c23 => ?_)
      refine g_iload_n (i := 2) (pc := 26) dX2_firstError_26 rfl rfl ?_
      refine g_z_le (tgt := 47) (pc := 27) dX2_firstError_27 (by omega) (by decide) (fun c27 => ?_) (fun c27 => ?_)
      · skip
        refine g_iload_n (i := 3) (pc := 47) dX2_firstError_47 rfl rfl ?_
        refine g_istore_n (i := 1) (pc := 48) dX2_firstError_48 rfl (by decide) rfl ?_
        simp only [List.set_cons_succ, List.set_cons_zero]
        refine g_aload_n (i := 0) (pc := 49) dX2_firstError_49 rfl rfl ?_
        refine g_iload_n (i := 3) (pc := 50) dX2_firstError_50 rfl rfl ?_
        refine g_v1 (pc := 51) okV_X2_sign rfl l_X2_19 dX2_firstError_51 (c_1) hc_2 (by decide) (by decide) (Nat.le_of_ble_eq_true rfl) (t_X2_sign hK (by omega)) rfl ?_
        simp only [Option.toList, List.cons_append, List.nil_append]
        have bb := sn_rng hK.1 (k_ln (κ)) (((k : Int) + 1))
        refine g_s1 (pc := 54) okS_X2_digitsBehind rfl l_X2_31 dX2_firstError_54 (by decide) (by decide) (Nat.le_of_ble_eq_true rfl) (t_X2_digitsBehind (by omega)) rfl ?_
        simp only [Option.toList, List.cons_append, List.nil_append]
        have bb := db_rng ((sn (k_sg (κ)) (k_ln (κ)) (((k : Int) + 1))))
        refine g_istore_n (i := 2) (pc := 57) dX2_firstError_57 rfl (by decide) rfl ?_
        simp only [List.set_cons_succ, List.set_cons_zero]
        refine g_iload_n (i := 2) (pc := 58) dX2_firstError_58 rfl rfl ?_
        refine g_iconst (pc := 59) dX2_firstError_59 ?_
        refine g_c_ne (tgt := 65) (pc := 60) dX2_firstError_60 (by omega) (by decide) (fun c60 => ?_) (fun c60 => ?_)
        · skip
          refine g_iinc (pc := 65) dX2_firstError_65 rfl (by decide) rfl ?_
          simp only [List.set_cons_succ, List.set_cons_zero]
          refine g_goto (tgt := 18) (pc := 68) dX2_firstError_68 (by decide) ?_
          have e9 : sc (k_sg κ) (k_ln κ) (k + 1) = (-1, (k : Int) + 1, db (sn (k_sg κ) (k_ln κ) ((k : Int) + 1))) := by
            rw [sc, if_neg (by omega), if_neg (by omega), if_neg (by omega)]
          refine G.eqL ?_ (ih (by rw [e9]))
          rw [e9]
          rfl
        · skip
          refine g_iload_n (i := 3) (pc := 63) dX2_firstError_63 rfl rfl ?_
          refine g_iret (pc := 64) rfl dX2_firstError_64 (fun h => h) ?_
          refine dt_i ?_ rfl
          have e9 : (sc (k_sg κ) (k_ln κ) (k + 1)).1 = (k : Int) + 1 := by
            rw [sc, if_neg (by omega), if_neg (by omega), if_pos (by omega)]
          have e8 := hfe (k + 1) (by omega) (by omega)
          omega
      · skip
        refine g_aload_n (i := 0) (pc := 30) dX2_firstError_30 rfl rfl ?_
        refine g_iload_n (i := 1) (pc := 31) dX2_firstError_31 rfl rfl ?_
        refine g_iload_n (i := 3) (pc := 32) dX2_firstError_32 rfl rfl ?_
        refine g_v2 (pc := 33) okV_X2_isAllowedDigit rfl l_X2_27 dX2_firstError_33 (c_1) hc_2 (by decide) (by decide) (Nat.le_of_ble_eq_true rfl) (t_X2_isAllowedDigit hK (by omega) (by omega)) rfl ?_
        simp only [Option.toList, List.cons_append, List.nil_append]
        have bb := b2_rng (ald (k_sg (κ)) (k_ln (κ)) (((sc (k_sg κ) (k_ln κ) k).2.1)) (((k : Int) + 1)))
        refine g_z_ne (tgt := 41) (pc := 36) dX2_firstError_36 (by omega) (by decide) (fun c36 => ?_) (fun c36 => ?_)
        · skip
          refine g_iinc (pc := 41) dX2_firstError_41 rfl (by decide) rfl ?_
          simp only [List.set_cons_succ, List.set_cons_zero]
          refine g_goto (tgt := 65) (pc := 44) dX2_firstError_44 (by decide) ?_
          refine g_iinc (pc := 65) dX2_firstError_65 rfl (by decide) rfl ?_
          simp only [List.set_cons_succ, List.set_cons_zero]
          refine g_goto (tgt := 18) (pc := 68) dX2_firstError_68 (by decide) ?_
          have e9 : sc (k_sg κ) (k_ln κ) (k + 1) = (-1, (sc (k_sg κ) (k_ln κ) k).2.1, (sc (k_sg κ) (k_ln κ) k).2.2 - 1) := by
            rw [sc, if_neg (by omega), if_pos (by omega), if_pos (b2_1.mp (by omega))]
          refine G.eqL ?_ (ih (by rw [e9]))
          rw [e9]
          rfl
        · skip
          refine g_iload_n (i := 3) (pc := 39) dX2_firstError_39 rfl rfl ?_
          refine g_iret (pc := 40) rfl dX2_firstError_40 (fun h => h) ?_
          refine dt_i ?_ rfl
          have e9 : (sc (k_sg κ) (k_ln κ) (k + 1)).1 = (k : Int) + 1 := by
            rw [sc, if_neg (by omega), if_pos (by omega), if_neg (b2_0.mp (by omega))]
          have e8 := hfe (k + 1) (by omega) (by omega)
          omega
  · skip
    refine g_iconst (pc := 10) dX2_firstError_10 ?_
    refine g_iret (pc := 11) rfl dX2_firstError_11 (fun h => h) ?_
    refine dt_i ?_ rfl
    unfold fe
    rw [if_pos (by omega)]
end ST
