/-! THE REFERENCE, its questions (printed by wip/whole/mod1.py, but for the first rows) -/
section MA
theorem va_rng {σ : SG} (hi : Inv σ) (f : Int) : 0 ≤ s_va σ f.toNat ∧ s_va σ f.toNat < 100 := hi.2.2.2.2.1 _
theorem b2_dec {p : Prop} [Decidable p] : b2 (decide p) = 1 ↔ p := by rw [b2_1, decide_eq_true_eq]
def eaf (σ : SG) (p v : Int) : Bool := decide (s_ea σ = 1 ∧ pf σ p (v.tdiv 4) = 0 ∧ lfr σ ≠ -1)
def emp (σ : SG) (f : Int) : Bool := decide (f ≠ -1 ∧ uses (s_fr σ) f = 1 ∧ s_va σ f.toNat = 0)
theorem xc_fk_rng (σ : SG) (p : Int) : 0 ≤ xc_fk σ p ∧ xc_fk σ p ≤ 2 := by unfold xc_fk; (repeat' split) <;> omega
theorem xc_ex_rng (σ : SG) (p : Int) : 0 ≤ xc_ex σ p ∧ xc_ex σ p ≤ 2 := by unfold xc_ex; (repeat' split) <;> omega
section
variable {M : MT} {scr : Option (Nat × (Nat → Int))} {al alE : Bool} {pc : Nat} {L : List (Option MV)} {S : List MV} {w w1 : List MC} {bc bs : Nat} {Q : (Option MV) ⊕ String → List MC → Prop}
theorem g_s3 {Mj : MT} {idx : Nat} {r0 : Option MV} {x y z : Int} (hok : g_okS Mj 3) (hh : mH Mj = []) (hlink : Cond.methodLink (mY M).cls idx (mY Mj) ∈ g_WS) (hd : decode (mC M) pc = .ok (.invokestatic idx, 3))
    (hent : 3 ≤ mL Mj) (hroom : mF Mj + 1 ≤ mF M ∧ 8 + (mL Mj + 11) + mO Mj ≤ mO M) (hsz : g_sz S ≤ 8) (hj : GM Mj al [vI x, vI y, vI z] w 0 0 (dt r0 w1)) (hlen : w1.length = w.length) (kk : G M scr al alE (pc + 3) L (r0.toList ++ S) w1 bc bs Q) : G M scr al alE pc L (vI z :: vI y :: vI x :: S) w bc bs Q :=
  g_callS (as := [vI x, vI y, vI z]) hok hh hlink hd rfl hent hroom hsz ⟨Nat.zero_le _, Nat.zero_le _⟩ hj (fun _ r w' h => by rw [h.2, hlen]; rfl) (fun r w' h => by cases h.1; rw [h.2]; exact kk) (fun E w' h => nomatch h.1)
end
set_option maxRecDepth 20000 in
set_option maxHeartbeats 4000000 in
theorem t_X4_within {w : List MC} {al : Bool} {v l h : Int} (h_v : -2147483648 ≤ v ∧ v < 2147483648) (h_l : -2147483648 ≤ l ∧ l < 2147483648) (h_h : -2147483648 ≤ h ∧ h < 2147483648) : GM M_X4_within al [vI v, vI l, vI h] (w) 0 0 (dt (some (vI (b2 (decide (l ≤ v ∧ v ≤ h))))) w) := by
  show G _ none _ _ 0 [some (vI v), some (vI l), some (vI h)] [] _ _ _ _
  refine g_iload_n (i := 0) (pc := 0) dX4_within_0 rfl rfl ?_
  refine g_iload_n (i := 1) (pc := 1) dX4_within_1 rfl rfl ?_
  refine g_c_lt (tgt := 14) (pc := 2) dX4_within_2 (by omega) (by decide) (fun c2 => ?_) (fun c2 => ?_)
  · skip
    refine g_iconst (pc := 14) dX4_within_14 ?_
    refine g_zret (pc := 15) rfl dX4_within_15 (by omega) (fun h => h) ?_
    first
    | exact dt_i (b2_t (decide_eq_true (by omega))).symm rfl
    | exact dt_i (b2_f (fun q => absurd (of_decide_eq_true q) (by omega))).symm rfl
  · skip
    refine g_iload_n (i := 0) (pc := 5) dX4_within_5 rfl rfl ?_
    refine g_iload_n (i := 2) (pc := 6) dX4_within_6 rfl rfl ?_
    refine g_c_gt (tgt := 14) (pc := 7) dX4_within_7 (by omega) (by decide) (fun c7 => ?_) (fun c7 => ?_)
    · skip
      refine g_iconst (pc := 14) dX4_within_14 ?_
      refine g_zret (pc := 15) rfl dX4_within_15 (by omega) (fun h => h) ?_
      first
      | exact dt_i (b2_t (decide_eq_true (by omega))).symm rfl
      | exact dt_i (b2_f (fun q => absurd (of_decide_eq_true q) (by omega))).symm rfl
    · skip
      refine g_iconst (pc := 10) dX4_within_10 ?_
      refine g_goto (tgt := 15) (pc := 11) dX4_within_11 (by decide) ?_
      refine g_zret (pc := 15) rfl dX4_within_15 (by omega) (fun h => h) ?_
      first
      | exact dt_i (b2_t (decide_eq_true (by omega))).symm rfl
      | exact dt_i (b2_f (fun q => absurd (of_decide_eq_true q) (by omega))).symm rfl
set_option maxRecDepth 20000 in
set_option maxHeartbeats 4000000 in
theorem t_X4_thrown {κ : KT} {ν : NT} {o : Nat → Int} {al : Bool} : GM M_X4_thrown al [vR 79] (cW κ (dE ν) o) 0 0 (dt (some (vI (n_th ν))) (cW κ (dE (ν)) o)) := by
  show G _ none _ _ 0 [some (vR 79)] [] _ _ _ _
  refine g_aload_n (i := 0) (pc := 0) dX4_thrown_0 rfl rfl ?_
  refine g_getf (pc := 1) f_X4_34 dX4_thrown_1 (c_79) rfl ?_
  refine g_iret (pc := 4) rfl dX4_thrown_4 (fun h => h) ?_
  exact dt_i rfl rfl
set_option maxRecDepth 20000 in
set_option maxHeartbeats 4000000 in
theorem t_X4_isProcess {κ : KT} {ν : NT} {o : Nat → Int} {al : Bool} (hi : Inv (n_st ν)) {p : Int} (h_p : -2147483648 ≤ p ∧ p < 2147483648) : GM M_X4_isProcess al [vR 79, vI p] (cW κ (dE ν) o) 0 0 (dt (some (vI (b2 (hasP (n_st ν) p)))) (cW κ (dE (ν)) o)) := by
  show G _ none _ _ 0 [some (vR 79), some (vI p)] [] _ _ _ _
  refine g_iload_n (i := 1) (pc := 0) dX4_isProcess_0 rfl rfl ?_
  refine g_iconst (pc := 1) dX4_isProcess_1 ?_
  refine g_iconst (pc := 2) dX4_isProcess_2 ?_
  refine g_s3 (pc := 3) okS_X4_within rfl l_X4_38 dX4_isProcess_3 (by decide) (by decide) (Nat.le_of_ble_eq_true rfl) (t_X4_within (by omega) (by omega) (by omega)) rfl ?_
  simp only [Option.toList, List.cons_append, List.nil_append]
  have bb := b2_rng (decide (0 ≤ p ∧ p ≤ 3))
  have b1 := b2_dec (p := 0 ≤ p ∧ p ≤ 3)
  refine g_z_eq (tgt := 25) (pc := 6) dX4_isProcess_6 (by omega) (by decide) (fun c6 => ?_) (fun c6 => ?_)
  · skip
    refine g_iconst (pc := 25) dX4_isProcess_25 ?_
    refine g_zret (pc := 26) rfl dX4_isProcess_26 (by omega) (fun h => h) ?_
    first
    | exact dt_i (b2_t (by simp only [hasP, decide_eq_true_eq]; omega)).symm rfl
    | exact dt_i (b2_f (by simp only [hasP, decide_eq_true_eq]; omega)).symm rfl
  · skip
    refine g_aload_n (i := 0) (pc := 9) dX4_isProcess_9 rfl rfl ?_
    refine g_getf (pc := 10) f_X4_7 dX4_isProcess_10 (c_79) rfl ?_
    refine g_iconst (pc := 13) dX4_isProcess_13 ?_
    refine g_iload_n (i := 1) (pc := 14) dX4_isProcess_14 rfl rfl ?_
    refine g_iadd (pc := 15) dX4_isProcess_15 ?_
    refine g_iald (pc := 16) dX4_isProcess_16 (c_80) (by omega) ?_
    refine G.eqS (congrArg (fun z => vI z) ((r_ex (by omega)).trans (congrArg (s_ex (n_st ν)) (show (0 + p).toNat = p.toNat by omega)))) ?_
    have z9 := hi.2.2.2.2.2.2.1 p.toNat
    refine g_iconst (pc := 17) dX4_isProcess_17 ?_
    refine g_c_ne (tgt := 25) (pc := 18) dX4_isProcess_18 (by omega) (by decide) (fun c18 => ?_) (fun c18 => ?_)
    · skip
      refine g_iconst (pc := 25) dX4_isProcess_25 ?_
      refine g_zret (pc := 26) rfl dX4_isProcess_26 (by omega) (fun h => h) ?_
      first
      | exact dt_i (b2_t (by simp only [hasP, decide_eq_true_eq]; omega)).symm rfl
      | exact dt_i (b2_f (by simp only [hasP, decide_eq_true_eq]; omega)).symm rfl
    · skip
      refine g_iconst (pc := 21) dX4_isProcess_21 ?_
      refine g_goto (tgt := 26) (pc := 22) dX4_isProcess_22 (by decide) ?_
      refine g_zret (pc := 26) rfl dX4_isProcess_26 (by omega) (fun h => h) ?_
      first
      | exact dt_i (b2_t (by simp only [hasP, decide_eq_true_eq]; omega)).symm rfl
      | exact dt_i (b2_f (by simp only [hasP, decide_eq_true_eq]; omega)).symm rfl
set_option maxRecDepth 20000 in
set_option maxHeartbeats 4000000 in
theorem t_X4_isPage {κ : KT} {ν : NT} {o : Nat → Int} {al : Bool} (hi : Inv (n_st ν)) {p v : Int} (h_p : -2147483648 ≤ p ∧ p < 2147483648) (h_v : -2147483648 ≤ v ∧ v < 2147483648) : GM M_X4_isPage al [vR 79, vI p, vI v] (cW κ (dE ν) o) 0 0 (dt (some (vI (b2 (hasPg (n_st ν) p v)))) (cW κ (dE (ν)) o)) := by
  show G _ none _ _ 0 [some (vR 79), some (vI p), some (vI v)] [] _ _ _ _
  refine g_aload_n (i := 0) (pc := 0) dX4_isPage_0 rfl rfl ?_
  refine g_iload_n (i := 1) (pc := 1) dX4_isPage_1 rfl rfl ?_
  refine g_v1 (pc := 2) okV_X4_isProcess rfl l_X4_42 dX4_isPage_2 (c_79) hc_4 (by decide) (by decide) (Nat.le_of_ble_eq_true rfl) (t_X4_isProcess hi (by omega)) rfl ?_
  simp only [Option.toList, List.cons_append, List.nil_append]
  have bb := b2_rng (hasP (n_st ν) (p))
  refine g_z_eq (tgt := 22) (pc := 5) dX4_isPage_5 (by omega) (by decide) (fun c5 => ?_) (fun c5 => ?_)
  · skip
    refine g_iconst (pc := 22) dX4_isPage_22 ?_
    refine g_zret (pc := 23) rfl dX4_isPage_23 (by omega) (fun h => h) ?_
    first
    | exact dt_i (b2_t (by rw [hasPg, Bool.and_eq_true, decide_eq_true_eq]; exact ⟨b2_1.mp (by omega), by omega⟩)).symm rfl
    | exact dt_i (b2_f (by rw [hasPg, Bool.and_eq_true, decide_eq_true_eq]; intro h; have h1 := b2_1.mpr h.1; omega)).symm rfl
  · skip
    refine g_iload_n (i := 2) (pc := 8) dX4_isPage_8 rfl rfl ?_
    refine g_iconst (pc := 9) dX4_isPage_9 ?_
    refine g_bipush (pc := 10) dX4_isPage_10 (by decide) ?_
    refine g_s3 (pc := 12) okS_X4_within rfl l_X4_38 dX4_isPage_12 (by decide) (by decide) (Nat.le_of_ble_eq_true rfl) (t_X4_within (by omega) (by omega) (by omega)) rfl ?_
    simp only [Option.toList, List.cons_append, List.nil_append]
    have bb := b2_rng (decide (0 ≤ v ∧ v ≤ 15))
    have b1 := b2_dec (p := 0 ≤ v ∧ v ≤ 15)
    refine g_z_eq (tgt := 22) (pc := 15) dX4_isPage_15 (by omega) (by decide) (fun c15 => ?_) (fun c15 => ?_)
    · skip
      refine g_iconst (pc := 22) dX4_isPage_22 ?_
      refine g_zret (pc := 23) rfl dX4_isPage_23 (by omega) (fun h => h) ?_
      first
      | exact dt_i (b2_t (by rw [hasPg, Bool.and_eq_true, decide_eq_true_eq]; exact ⟨b2_1.mp (by omega), by omega⟩)).symm rfl
      | exact dt_i (b2_f (by rw [hasPg, Bool.and_eq_true, decide_eq_true_eq]; intro h; have h1 := b2_1.mpr h.1; omega)).symm rfl
    · skip
      refine g_iconst (pc := 18) dX4_isPage_18 ?_
      refine g_goto (tgt := 23) (pc := 19) dX4_isPage_19 (by decide) ?_
      refine g_zret (pc := 23) rfl dX4_isPage_23 (by omega) (fun h => h) ?_
      first
      | exact dt_i (b2_t (by rw [hasPg, Bool.and_eq_true, decide_eq_true_eq]; exact ⟨b2_1.mp (by omega), by omega⟩)).symm rfl
      | exact dt_i (b2_f (by rw [hasPg, Bool.and_eq_true, decide_eq_true_eq]; intro h; have h1 := b2_1.mpr h.1; omega)).symm rfl
set_option maxRecDepth 20000 in
set_option maxHeartbeats 4000000 in
theorem t_X4_isGroup {κ : KT} {ν : NT} {o : Nat → Int} {al : Bool} (hi : Inv (n_st ν)) {p v : Int} (h_p : -2147483648 ≤ p ∧ p < 2147483648) (h_v : -2147483648 ≤ v ∧ v < 2147483648) : GM M_X4_isGroup al [vR 79, vI p, vI v] (cW κ (dE ν) o) 0 0 (dt (some (vI (b2 (hasGr (n_st ν) p v)))) (cW κ (dE (ν)) o)) := by
  show G _ none _ _ 0 [some (vR 79), some (vI p), some (vI v)] [] _ _ _ _
  refine g_aload_n (i := 0) (pc := 0) dX4_isGroup_0 rfl rfl ?_
  refine g_iload_n (i := 1) (pc := 1) dX4_isGroup_1 rfl rfl ?_
  refine g_v1 (pc := 2) okV_X4_isProcess rfl l_X4_42 dX4_isGroup_2 (c_79) hc_4 (by decide) (by decide) (Nat.le_of_ble_eq_true rfl) (t_X4_isProcess hi (by omega)) rfl ?_
  simp only [Option.toList, List.cons_append, List.nil_append]
  have bb := b2_rng (hasP (n_st ν) (p))
  refine g_z_eq (tgt := 21) (pc := 5) dX4_isGroup_5 (by omega) (by decide) (fun c5 => ?_) (fun c5 => ?_)
  · skip
    refine g_iconst (pc := 21) dX4_isGroup_21 ?_
    refine g_zret (pc := 22) rfl dX4_isGroup_22 (by omega) (fun h => h) ?_
    first
    | exact dt_i (b2_t (by rw [hasGr, Bool.and_eq_true, decide_eq_true_eq]; exact ⟨b2_1.mp (by omega), by omega⟩)).symm rfl
    | exact dt_i (b2_f (by rw [hasGr, Bool.and_eq_true, decide_eq_true_eq]; intro h; have h1 := b2_1.mpr h.1; omega)).symm rfl
  · skip
    refine g_iload_n (i := 2) (pc := 8) dX4_isGroup_8 rfl rfl ?_
    refine g_iconst (pc := 9) dX4_isGroup_9 ?_
    refine g_iconst (pc := 10) dX4_isGroup_10 ?_
    refine g_s3 (pc := 11) okS_X4_within rfl l_X4_38 dX4_isGroup_11 (by decide) (by decide) (Nat.le_of_ble_eq_true rfl) (t_X4_within (by omega) (by omega) (by omega)) rfl ?_
    simp only [Option.toList, List.cons_append, List.nil_append]
    have bb := b2_rng (decide (0 ≤ v ∧ v ≤ 3))
    have b1 := b2_dec (p := 0 ≤ v ∧ v ≤ 3)
    refine g_z_eq (tgt := 21) (pc := 14) dX4_isGroup_14 (by omega) (by decide) (fun c14 => ?_) (fun c14 => ?_)
    · skip
      refine g_iconst (pc := 21) dX4_isGroup_21 ?_
      refine g_zret (pc := 22) rfl dX4_isGroup_22 (by omega) (fun h => h) ?_
      first
      | exact dt_i (b2_t (by rw [hasGr, Bool.and_eq_true, decide_eq_true_eq]; exact ⟨b2_1.mp (by omega), by omega⟩)).symm rfl
      | exact dt_i (b2_f (by rw [hasGr, Bool.and_eq_true, decide_eq_true_eq]; intro h; have h1 := b2_1.mpr h.1; omega)).symm rfl
    · skip
      refine g_iconst (pc := 17) dX4_isGroup_17 ?_
      refine g_goto (tgt := 22) (pc := 18) dX4_isGroup_18 (by decide) ?_
      refine g_zret (pc := 22) rfl dX4_isGroup_22 (by omega) (fun h => h) ?_
      first
      | exact dt_i (b2_t (by rw [hasGr, Bool.and_eq_true, decide_eq_true_eq]; exact ⟨b2_1.mp (by omega), by omega⟩)).symm rfl
      | exact dt_i (b2_f (by rw [hasGr, Bool.and_eq_true, decide_eq_true_eq]; intro h; have h1 := b2_1.mpr h.1; omega)).symm rfl
set_option maxRecDepth 20000 in
set_option maxHeartbeats 4000000 in
theorem t_X4_frameOf {κ : KT} {ν : NT} {o : Nat → Int} {al : Bool} (hi : Inv (n_st ν)) {p v : Int} (h_p : 0 ≤ p ∧ p < 4) (h_v : 0 ≤ v ∧ v < 16) : GM M_X4_frameOf al [vR 79, vI p, vI v] (cW κ (dE ν) o) 0 0 (dt (some (vI (fo (n_st ν) p v))) (cW κ (dE (ν)) o)) := by
  show G _ none _ _ 0 [some (vR 79), some (vI p), some (vI v)] [] _ _ _ _
  refine g_aload_n (i := 0) (pc := 0) dX4_frameOf_0 rfl rfl ?_
  refine g_getf (pc := 1) f_X4_7 dX4_frameOf_1 (c_79) rfl ?_
  refine g_iconst (pc := 4) dX4_frameOf_4 ?_
  refine g_bipush (pc := 5) dX4_frameOf_5 (by decide) ?_
  refine g_iload_n (i := 1) (pc := 7) dX4_frameOf_7 rfl rfl ?_
  refine g_imul (pc := 8) dX4_frameOf_8 ?_
  refine g_iadd (pc := 9) dX4_frameOf_9 ?_
  refine g_iload_n (i := 2) (pc := 10) dX4_frameOf_10 rfl rfl ?_
  refine g_iadd (pc := 11) dX4_frameOf_11 ?_
  refine g_iald (pc := 12) dX4_frameOf_12 (c_80) (by omega) ?_
  refine g_iret (pc := 13) rfl dX4_frameOf_13 (fun h => h) ?_
  exact dt_i ((r_fr (by omega)).trans ((congrArg (s_fr (n_st ν)) (show (4 + 16 * p + v - 4).toNat = (16 * p + v).toNat by omega)).trans (fo_in h_p h_v).symm)) rfl
set_option maxRecDepth 20000 in
set_option maxHeartbeats 4000000 in
theorem t_X4_setFrame {κ : KT} {ν : NT} {o : Nat → Int} {al : Bool} (hi : Inv (n_st ν)) {p v : Int} (h_p : 0 ≤ p ∧ p < 4) (h_v : 0 ≤ v ∧ v < 16) {f : Int} (h_f : -1 ≤ f ∧ f < 32) : GM M_X4_setFrame al [vR 79, vI p, vI v, vI f] (cW κ (dE ν) o) 0 0 (dt none (cW κ (dE (n_setst ν (s_setfr (n_st ν) (16 * p + v).toNat f))) o)) := by
  show G _ none _ _ 0 [some (vR 79), some (vI p), some (vI v), some (vI f)] [] _ _ _ _
  refine g_aload_n (i := 0) (pc := 0) dX4_setFrame_0 rfl rfl ?_
  refine g_getf (pc := 1) f_X4_7 dX4_setFrame_1 (c_79) rfl ?_
  refine g_iconst (pc := 4) dX4_setFrame_4 ?_
  refine g_bipush (pc := 5) dX4_setFrame_5 (by decide) ?_
  refine g_iload_n (i := 1) (pc := 7) dX4_setFrame_7 rfl rfl ?_
  refine g_imul (pc := 8) dX4_setFrame_8 ?_
  refine g_iadd (pc := 9) dX4_setFrame_9 ?_
  refine g_iload_n (i := 2) (pc := 10) dX4_setFrame_10 rfl rfl ?_
  refine g_iadd (pc := 11) dX4_setFrame_11 ?_
  refine g_iload_n (i := 3) (pc := 12) dX4_setFrame_12 rfl rfl ?_
  refine g_iast (pc := 13) dX4_setFrame_13 c_80 (by omega) ?_
  refine G.eqw (w4_fr (k := (16 * p + v).toNat) (by omega) (by omega)) ?_
  refine g_vret (pc := 14) rfl dX4_setFrame_14 (fun h => h) ?_
  exact dt_v rfl
set_option maxRecDepth 20000 in
set_option maxHeartbeats 4000000 in
theorem t_X4_isBig {κ : KT} {ν : NT} {o : Nat → Int} {al : Bool} (hi : Inv (n_st ν)) {p g : Int} (h_p : 0 ≤ p ∧ p < 4) (h_g : 0 ≤ g ∧ g < 4) : GM M_X4_isBig al [vR 79, vI p, vI g] (cW κ (dE ν) o) 0 0 (dt (some (vI (b2 (big (n_st ν) p g)))) (cW κ (dE (ν)) o)) := by
  show G _ none _ _ 0 [some (vR 79), some (vI p), some (vI g)] [] _ _ _ _
  refine g_aload_n (i := 0) (pc := 0) dX4_isBig_0 rfl rfl ?_
  refine g_getf (pc := 1) f_X4_7 dX4_isBig_1 (c_79) rfl ?_
  refine g_bipush (pc := 4) dX4_isBig_4 (by decide) ?_
  refine g_iconst (pc := 6) dX4_isBig_6 ?_
  refine g_iload_n (i := 1) (pc := 7) dX4_isBig_7 rfl rfl ?_
  refine g_imul (pc := 8) dX4_isBig_8 ?_
  refine g_iadd (pc := 9) dX4_isBig_9 ?_
  refine g_iload_n (i := 2) (pc := 10) dX4_isBig_10 rfl rfl ?_
  refine g_iadd (pc := 11) dX4_isBig_11 ?_
  refine g_iald (pc := 12) dX4_isBig_12 (c_80) (by omega) ?_
  refine G.eqS (congrArg (fun z => vI z) ((r_bg (by omega)).trans (congrArg (s_bg (n_st ν)) (show (68 + 4 * p + g - 68).toNat = (4 * p + g).toNat by omega)))) ?_
  have z9 := hi.2.2.1 (4 * p + g).toNat
  refine g_iconst (pc := 13) dX4_isBig_13 ?_
  refine g_c_ne (tgt := 21) (pc := 14) dX4_isBig_14 (by omega) (by decide) (fun c14 => ?_) (fun c14 => ?_)
  · skip
    refine g_iconst (pc := 21) dX4_isBig_21 ?_
    refine g_zret (pc := 22) rfl dX4_isBig_22 (by omega) (fun h => h) ?_
    first
    | exact dt_i (b2_t (by simp only [big, decide_eq_true_eq]; omega)).symm rfl
    | exact dt_i (b2_f (by simp only [big, decide_eq_true_eq]; omega)).symm rfl
  · skip
    refine g_iconst (pc := 17) dX4_isBig_17 ?_
    refine g_goto (tgt := 22) (pc := 18) dX4_isBig_18 (by decide) ?_
    refine g_zret (pc := 22) rfl dX4_isBig_22 (by omega) (fun h => h) ?_
    first
    | exact dt_i (b2_t (by simp only [big, decide_eq_true_eq]; omega)).symm rfl
    | exact dt_i (b2_f (by simp only [big, decide_eq_true_eq]; omega)).symm rfl
set_option maxRecDepth 20000 in
set_option maxHeartbeats 4000000 in
theorem t_X4_setBig {κ : KT} {ν : NT} {o : Nat → Int} {al : Bool} (hi : Inv (n_st ν)) {p g : Int} (h_p : 0 ≤ p ∧ p < 4) (h_g : 0 ≤ g ∧ g < 4) {x : Int} (h_x : 0 ≤ x ∧ x < 2) : GM M_X4_setBig al [vR 79, vI p, vI g, vI x] (cW κ (dE ν) o) 0 0 (dt none (cW κ (dE (n_setst ν (s_setbg (n_st ν) (4 * p + g).toNat x))) o)) := by
  show G _ none _ _ 0 [some (vR 79), some (vI p), some (vI g), some (vI x)] [] _ _ _ _
  refine g_aload_n (i := 0) (pc := 0) dX4_setBig_0 rfl rfl ?_
  refine g_getf (pc := 1) f_X4_7 dX4_setBig_1 (c_79) rfl ?_
  refine g_bipush (pc := 4) dX4_setBig_4 (by decide) ?_
  refine g_iconst (pc := 6) dX4_setBig_6 ?_
  refine g_iload_n (i := 1) (pc := 7) dX4_setBig_7 rfl rfl ?_
  refine g_imul (pc := 8) dX4_setBig_8 ?_
  refine g_iadd (pc := 9) dX4_setBig_9 ?_
  refine g_iload_n (i := 2) (pc := 10) dX4_setBig_10 rfl rfl ?_
  refine g_iadd (pc := 11) dX4_setBig_11 ?_
  refine g_iload_n (i := 3) (pc := 12) dX4_setBig_12 rfl rfl ?_
  refine g_iast (pc := 13) dX4_setBig_13 c_80 (by omega) ?_
  refine G.eqw (w4_bg (k := (4 * p + g).toNat) (by omega) (by omega)) ?_
  refine g_vret (pc := 14) rfl dX4_setBig_14 (fun h => h) ?_
  exact dt_v rfl
set_option maxRecDepth 20000 in
set_option maxHeartbeats 4000000 in
theorem t_X4_valueOf {κ : KT} {ν : NT} {o : Nat → Int} {al : Bool} (hi : Inv (n_st ν)) {f : Int} (h_f : 0 ≤ f ∧ f < 32) : GM M_X4_valueOf al [vR 79, vI f] (cW κ (dE ν) o) 0 0 (dt (some (vI (s_va (n_st ν) f.toNat))) (cW κ (dE (ν)) o)) := by
  show G _ none _ _ 0 [some (vR 79), some (vI f)] [] _ _ _ _
  refine g_aload_n (i := 0) (pc := 0) dX4_valueOf_0 rfl rfl ?_
  refine g_getf (pc := 1) f_X4_7 dX4_valueOf_1 (c_79) rfl ?_
  refine g_bipush (pc := 4) dX4_valueOf_4 (by decide) ?_
  refine g_iload_n (i := 1) (pc := 6) dX4_valueOf_6 rfl rfl ?_
  refine g_iadd (pc := 7) dX4_valueOf_7 ?_
  refine g_iald (pc := 8) dX4_valueOf_8 (c_80) (by omega) ?_
  refine g_iret (pc := 9) rfl dX4_valueOf_9 (fun h => h) ?_
  exact dt_i ((r_va (by omega)).trans (congrArg (s_va (n_st ν)) (by omega))) rfl
set_option maxRecDepth 20000 in
set_option maxHeartbeats 4000000 in
theorem t_X4_uses {κ : KT} {ν : NT} {o : Nat → Int} {al : Bool} (hi : Inv (n_st ν)) {f : Int} (h_f : -1 ≤ f ∧ f < 32) : GM M_X4_uses al [vR 79, vI f] (cW κ (dE ν) o) 0 0 (dt (some (vI (uses (s_fr (n_st ν)) f))) (cW κ (dE (ν)) o)) := by
  show G _ none _ _ 0 [some (vR 79), some (vI f), none, none] [] _ _ _ _
  refine g_iconst (pc := 0) dX4_uses_0 ?_
  refine g_istore_n (i := 2) (pc := 1) dX4_uses_1 rfl (by decide) rfl ?_
  simp only [List.set_cons_succ, List.set_cons_zero]
  refine g_iconst (pc := 2) dX4_uses_2 ?_
  refine g_istore_n (i := 3) (pc := 3) dX4_uses_3 rfl (by decide) rfl ?_
  simp only [List.set_cons_succ, List.set_cons_zero]
  refine lp_up (P := fun k => G M_X4_uses none al al 4 [some (vR 79), some (vI f), some (vI (ct (fun k => decide (s_fr (n_st ν) k = f)) k)), some (vI k)] [] (cW κ (dE ν) o) 0 0 (dt (some (vI (uses (s_fr (n_st ν)) f))) (cW κ (dE (ν)) o))) 64 ?_ ?_ 0 (Nat.zero_le _)
  · show G _ _ _ _ _ _ _ _ _ _ _
    refine g_iload_n (i := 3) (pc := 4) dX4_uses_4 rfl rfl ?_
    refine g_bipush (pc := 5) dX4_uses_5 (by decide) ?_
    refine g_c_ge (tgt := 36) (pc := 7) dX4_uses_7 (by omega) (by decide) (fun c7 => ?_) (fun c7 => absurd c7 (by omega))
    refine g_iload_n (i := 2) (pc := 36) dX4_uses_36 rfl rfl ?_
    refine g_iret (pc := 37) rfl dX4_uses_37 (fun h => h) ?_
    exact dt_i rfl rfl
  · intro k hk ih
    have yc := ct_rng (fun k => decide (s_fr (n_st ν) k = f)) k
    show G _ _ _ _ _ _ _ _ _ _ _
    refine g_iload_n (i := 3) (pc := 4) dX4_uses_4 rfl rfl ?_
    refine g_bipush (pc := 5) dX4_uses_5 (by decide) ?_
    refine g_c_ge (tgt := 36) (pc := 7) dX4_uses_7 (by omega) (by decide) (fun c7 => absurd c7 (by omega)) (fun c7 => ?_)
    refine g_iload_n (i := 2) (pc := 10) dX4_uses_10 rfl rfl ?_
    refine g_aload_n (i := 0) (pc := 11) dX4_uses_11 rfl rfl ?_
    refine g_getf (pc := 12) f_X4_7 dX4_uses_12 (c_79) rfl ?_
    refine g_iconst (pc := 15) dX4_uses_15 ?_
    refine g_iload_n (i := 3) (pc := 16) dX4_uses_16 rfl rfl ?_
    refine g_iadd (pc := 17) dX4_uses_17 ?_
    refine g_iald (pc := 18) dX4_uses_18 (c_80) (by omega) ?_
    refine G.eqS (congrArg (fun z => vI z) ((r_fr (by omega)).trans (congrArg (s_fr (n_st ν)) (show (4 + (k : Int) - 4).toNat = k by omega)))) ?_
    have z9 := hi.1 k
    refine g_iload_n (i := 1) (pc := 19) dX4_uses_19 rfl rfl ?_
    refine g_c_ne (tgt := 27) (pc := 20) dX4_uses_20 (by omega) (by decide) (fun c20 => ?_) (fun c20 => ?_)
    · skip
      refine g_iconst (pc := 27) dX4_uses_27 ?_
      refine g_iadd (pc := 28) dX4_uses_28 ?_
      refine g_istore_n (i := 2) (pc := 29) dX4_uses_29 rfl (by decide) rfl ?_
      simp only [List.set_cons_succ, List.set_cons_zero]
      refine g_iinc (pc := 30) dX4_uses_30 rfl (by decide) rfl ?_
      simp only [List.set_cons_succ, List.set_cons_zero]
      refine g_goto (tgt := 4) (pc := 33) dX4_uses_33 (by decide) ?_
      refine G.eqL (congrArg (fun z => [some (vR 79), some (vI f), some (vI (z)), some (vI ((k : Int) + 1))]) ?_) ih
      refine Eq.trans (Int.add_zero _) ?_
      exact (ct_no (by rw [decide_eq_true_eq]; omega)).symm
    · skip
      refine g_iconst (pc := 23) dX4_uses_23 ?_
      refine g_goto (tgt := 28) (pc := 24) dX4_uses_24 (by decide) ?_
      refine g_iadd (pc := 28) dX4_uses_28 ?_
      refine g_istore_n (i := 2) (pc := 29) dX4_uses_29 rfl (by decide) rfl ?_
      simp only [List.set_cons_succ, List.set_cons_zero]
      refine g_iinc (pc := 30) dX4_uses_30 rfl (by decide) rfl ?_
      simp only [List.set_cons_succ, List.set_cons_zero]
      refine g_goto (tgt := 4) (pc := 33) dX4_uses_33 (by decide) ?_
      refine G.eqL (congrArg (fun z => [some (vR 79), some (vI f), some (vI (z)), some (vI ((k : Int) + 1))]) ?_) ih
      exact (ct_yes (by rw [decide_eq_true_eq]; omega)).symm
set_option maxRecDepth 20000 in
set_option maxHeartbeats 4000000 in
theorem t_X4_isShared {κ : KT} {ν : NT} {o : Nat → Int} {al : Bool} (hi : Inv (n_st ν)) {f : Int} (h_f : -1 ≤ f ∧ f < 32) : GM M_X4_isShared al [vR 79, vI f] (cW κ (dE ν) o) 0 0 (dt (some (vI (b2 (sh (n_st ν) f)))) (cW κ (dE (ν)) o)) := by
  show G _ none _ _ 0 [some (vR 79), some (vI f)] [] _ _ _ _
  refine g_iload_n (i := 1) (pc := 0) dX4_isShared_0 rfl rfl ?_
  refine g_iconst (pc := 1) dX4_isShared_1 ?_
  refine g_c_eq (tgt := 18) (pc := 2) dX4_isShared_2 (by omega) (by decide) (fun c2 => ?_) (fun c2 => ?_)
  · skip
    refine g_iconst (pc := 18) dX4_isShared_18 ?_
    refine g_zret (pc := 19) rfl dX4_isShared_19 (by omega) (fun h => h) ?_
    first
    | exact dt_i (b2_t (by simp only [sh, decide_eq_true_eq]; omega)).symm rfl
    | exact dt_i (b2_f (by simp only [sh, decide_eq_true_eq]; omega)).symm rfl
  · skip
    refine g_aload_n (i := 0) (pc := 5) dX4_isShared_5 rfl rfl ?_
    refine g_iload_n (i := 1) (pc := 6) dX4_isShared_6 rfl rfl ?_
    refine g_v1 (pc := 7) okV_X4_uses rfl l_X4_46 dX4_isShared_7 (c_79) hc_4 (by decide) (by decide) (Nat.le_of_ble_eq_true rfl) (t_X4_uses hi (by omega)) rfl ?_
    simp only [Option.toList, List.cons_append, List.nil_append]
    have bb := uses_rng (s_fr (n_st ν)) (f)
    refine g_iconst (pc := 10) dX4_isShared_10 ?_
    refine g_c_le (tgt := 18) (pc := 11) dX4_isShared_11 (by omega) (by decide) (fun c11 => ?_) (fun c11 => ?_)
    · skip
      refine g_iconst (pc := 18) dX4_isShared_18 ?_
      refine g_zret (pc := 19) rfl dX4_isShared_19 (by omega) (fun h => h) ?_
      first
      | exact dt_i (b2_t (by simp only [sh, decide_eq_true_eq]; omega)).symm rfl
      | exact dt_i (b2_f (by simp only [sh, decide_eq_true_eq]; omega)).symm rfl
    · skip
      refine g_iconst (pc := 14) dX4_isShared_14 ?_
      refine g_goto (tgt := 19) (pc := 15) dX4_isShared_15 (by decide) ?_
      refine g_zret (pc := 19) rfl dX4_isShared_19 (by omega) (fun h => h) ?_
      first
      | exact dt_i (b2_t (by simp only [sh, decide_eq_true_eq]; omega)).symm rfl
      | exact dt_i (b2_f (by simp only [sh, decide_eq_true_eq]; omega)).symm rfl
set_option maxRecDepth 20000 in
set_option maxHeartbeats 4000000 in
theorem t_X4_isFreeRun {κ : KT} {ν : NT} {o : Nat → Int} {al : Bool} (hi : Inv (n_st ν)) {r : Int} (h_r : 0 ≤ r ∧ r < 8) : GM M_X4_isFreeRun al [vR 79, vI r] (cW κ (dE ν) o) 0 0 (dt (some (vI (b2 (rf (n_st ν) r)))) (cW κ (dE (ν)) o)) := by
  show G _ none _ _ 0 [some (vR 79), some (vI r), none, none] [] _ _ _ _
  refine g_iconst (pc := 0) dX4_isFreeRun_0 ?_
  refine g_istore_n (i := 2) (pc := 1) dX4_isFreeRun_1 rfl (by decide) rfl ?_
  simp only [List.set_cons_succ, List.set_cons_zero]
  refine g_iconst (pc := 2) dX4_isFreeRun_2 ?_
  refine g_istore_n (i := 3) (pc := 3) dX4_isFreeRun_3 rfl (by decide) rfl ?_
  simp only [List.set_cons_succ, List.set_cons_zero]
  refine lp_up (P := fun k => G M_X4_isFreeRun none al al 4 [some (vR 79), some (vI r), some (vI (b2 (decide (ct (fun i => decide (0 < uses (s_fr (n_st ν)) (4 * r + i))) k = 0)))), some (vI k)] [] (cW κ (dE ν) o) 0 0 (dt (some (vI (b2 (rf (n_st ν) r)))) (cW κ (dE (ν)) o))) 4 ?_ ?_ 0 (Nat.zero_le _)
  · show G _ _ _ _ _ _ _ _ _ _ _
    have y9 := b2_rng (decide (ct (fun i => decide (0 < uses (s_fr (n_st ν)) (4 * r + i))) 4 = 0))
    refine g_iload_n (i := 3) (pc := 4) dX4_isFreeRun_4 rfl rfl ?_
    refine g_iconst (pc := 5) dX4_isFreeRun_5 ?_
    refine g_c_ge (tgt := 37) (pc := 6) dX4_isFreeRun_6 (by omega) (by decide) (fun c6 => ?_) (fun c6 => absurd c6 (by omega))
    refine g_iload_n (i := 2) (pc := 37) dX4_isFreeRun_37 rfl rfl ?_
    refine g_zret (pc := 38) rfl dX4_isFreeRun_38 (by omega) (fun h => h) ?_
    exact dt_i rfl rfl
  · intro k hk ih
    have yc := ct_rng (fun i => decide (0 < uses (s_fr (n_st ν)) (4 * r + i))) k
    have y9 := b2_rng (decide (ct (fun i => decide (0 < uses (s_fr (n_st ν)) (4 * r + i))) k = 0))
    have y8 := b2_dec (p := ct (fun i => decide (0 < uses (s_fr (n_st ν)) (4 * r + i))) k = 0)
    show G _ _ _ _ _ _ _ _ _ _ _
    refine g_iload_n (i := 3) (pc := 4) dX4_isFreeRun_4 rfl rfl ?_
    refine g_iconst (pc := 5) dX4_isFreeRun_5 ?_
    refine g_c_ge (tgt := 37) (pc := 6) dX4_isFreeRun_6 (by omega) (by decide) (fun c6 => absurd c6 (by omega)) (fun c6 => ?_)
    refine g_iload_n (i := 2) (pc := 9) dX4_isFreeRun_9 rfl rfl ?_
    refine g_z_eq (tgt := 29) (pc := 10) dX4_isFreeRun_10 (by omega) (by decide) (fun c10 => ?_) (fun c10 => ?_)
    · skip
      refine g_iconst (pc := 29) dX4_isFreeRun_29 ?_
      refine g_istore_n (i := 2) (pc := 30) dX4_isFreeRun_30 rfl (by decide) rfl ?_
      simp only [List.set_cons_succ, List.set_cons_zero]
      refine g_iinc (pc := 31) dX4_isFreeRun_31 rfl (by decide) rfl ?_
      simp only [List.set_cons_succ, List.set_cons_zero]
      refine g_goto (tgt := 4) (pc := 34) dX4_isFreeRun_34 (by decide) ?_
      refine G.eqL (congrArg (fun z => [some (vR 79), some (vI r), some (vI z), some (vI ((k : Int) + 1))]) ?_) ih
      refine (b2_f (fun q => ?_)).symm
      have q2 := of_decide_eq_true q
      rw [ct] at q2
      split at q2 <;> omega
    · skip
      refine g_aload_n (i := 0) (pc := 13) dX4_isFreeRun_13 rfl rfl ?_
      refine g_iconst (pc := 14) dX4_isFreeRun_14 ?_
      refine g_iload_n (i := 1) (pc := 15) dX4_isFreeRun_15 rfl rfl ?_
      refine g_imul (pc := 16) dX4_isFreeRun_16 ?_
      refine g_iload_n (i := 3) (pc := 17) dX4_isFreeRun_17 rfl rfl ?_
      refine g_iadd (pc := 18) dX4_isFreeRun_18 ?_
      refine g_v1 (pc := 19) okV_X4_uses rfl l_X4_46 dX4_isFreeRun_19 (c_79) hc_4 (by decide) (by decide) (Nat.le_of_ble_eq_true rfl) (t_X4_uses hi (by omega)) rfl ?_
      simp only [Option.toList, List.cons_append, List.nil_append]
      have bb := uses_rng (s_fr (n_st ν)) (((4 * r) + (k : Int)))
      refine g_z_ne (tgt := 29) (pc := 22) dX4_isFreeRun_22 (by omega) (by decide) (fun c22 => ?_) (fun c22 => ?_)
      · skip
        refine g_iconst (pc := 29) dX4_isFreeRun_29 ?_
        refine g_istore_n (i := 2) (pc := 30) dX4_isFreeRun_30 rfl (by decide) rfl ?_
        simp only [List.set_cons_succ, List.set_cons_zero]
        refine g_iinc (pc := 31) dX4_isFreeRun_31 rfl (by decide) rfl ?_
        simp only [List.set_cons_succ, List.set_cons_zero]
        refine g_goto (tgt := 4) (pc := 34) dX4_isFreeRun_34 (by decide) ?_
        refine G.eqL (congrArg (fun z => [some (vR 79), some (vI r), some (vI z), some (vI ((k : Int) + 1))]) ?_) ih
        refine (b2_f (fun q => ?_)).symm
        have q2 := of_decide_eq_true q
        rw [ct_yes (by rw [decide_eq_true_eq]; omega)] at q2
        omega
      · skip
        refine g_iconst (pc := 25) dX4_isFreeRun_25 ?_
        refine g_goto (tgt := 30) (pc := 26) dX4_isFreeRun_26 (by decide) ?_
        refine g_istore_n (i := 2) (pc := 30) dX4_isFreeRun_30 rfl (by decide) rfl ?_
        simp only [List.set_cons_succ, List.set_cons_zero]
        refine g_iinc (pc := 31) dX4_isFreeRun_31 rfl (by decide) rfl ?_
        simp only [List.set_cons_succ, List.set_cons_zero]
        refine g_goto (tgt := 4) (pc := 34) dX4_isFreeRun_34 (by decide) ?_
        refine G.eqL (congrArg (fun z => [some (vR 79), some (vI r), some (vI z), some (vI ((k : Int) + 1))]) ?_) ih
        refine (b2_t (decide_eq_true ?_)).symm
        rw [ct_no (by rw [decide_eq_true_eq]; omega)]
        omega
set_option maxRecDepth 20000 in
set_option maxHeartbeats 4000000 in
theorem t_X4_freeRun {κ : KT} {ν : NT} {o : Nat → Int} {al : Bool} (hi : Inv (n_st ν)) : GM M_X4_freeRun al [vR 79] (cW κ (dE ν) o) 0 0 (dt (some (vI (lfr (n_st ν)))) (cW κ (dE (ν)) o)) := by
  show G _ none _ _ 0 [some (vR 79), none, none] [] _ _ _ _
  refine g_iconst (pc := 0) dX4_freeRun_0 ?_
  refine g_istore_n (i := 1) (pc := 1) dX4_freeRun_1 rfl (by decide) rfl ?_
  simp only [List.set_cons_succ, List.set_cons_zero]
  refine g_bipush (pc := 2) dX4_freeRun_2 (by decide) ?_
  refine g_istore_n (i := 2) (pc := 4) dX4_freeRun_4 rfl (by decide) rfl ?_
  simp only [List.set_cons_succ, List.set_cons_zero]
  refine G.eqL (L' := [some (vR 79), some (vI (fx (fun r => rf (n_st ν) r) 8 8)), some (vI (((8 : Nat) : Int) - 1))]) (by simp only [fx_n]; rfl) ?_
  refine lp_dn (P := fun k => G M_X4_freeRun none al al 5 [some (vR 79), some (vI (fx (fun r => rf (n_st ν) r) 8 k)), some (vI ((k : Int) - 1))] [] (cW κ (dE ν) o) 0 0 (dt (some (vI (lfr (n_st ν)))) (cW κ (dE (ν)) o))) 8 ?_ ?_
  · show G _ _ _ _ _ _ _ _ _ _ _
    have yf := fx_rng (fun r => rf (n_st ν) r) 8 0
    
    refine g_iload_n (i := 2) (pc := 5) dX4_freeRun_5 rfl rfl ?_
    refine g_z_lt (tgt := 29) (pc := 6) dX4_freeRun_6 (by omega) (by decide) (fun c6 => ?_) (fun c6 => absurd c6 (by omega))
    refine g_iload_n (i := 1) (pc := 29) dX4_freeRun_29 rfl rfl ?_
    refine g_iret (pc := 30) rfl dX4_freeRun_30 (fun h => h) ?_
    exact dt_i (fx_0 _ _) rfl
  · intro k hk ih
    have yf := fx_rng (fun r => rf (n_st ν) r) 8 (k + 1)
    
    refine G.eqL (L' := [some (vR 79), some (vI (fx (fun r => rf (n_st ν) r) 8 (k + 1))), some (vI (k : Int))]) (congrArg (fun z => [some (vR 79), some (vI (fx (fun r => rf (n_st ν) r) 8 (k + 1))), some (vI z)]) (show ((k + 1 : Nat) : Int) - 1 = (k : Int) by omega)) ?_
    show G _ _ _ _ _ _ _ _ _ _ _
    refine g_iload_n (i := 2) (pc := 5) dX4_freeRun_5 rfl rfl ?_
    refine g_z_lt (tgt := 29) (pc := 6) dX4_freeRun_6 (by omega) (by decide) (fun c6 => absurd c6 (by omega)) (fun c6 => ?_)
    refine g_aload_n (i := 0) (pc := 9) dX4_freeRun_9 rfl rfl ?_
    refine g_iload_n (i := 2) (pc := 10) dX4_freeRun_10 rfl rfl ?_
    refine g_v1 (pc := 11) okV_X4_isFreeRun rfl l_X4_50 dX4_freeRun_11 (c_79) hc_4 (by decide) (by decide) (Nat.le_of_ble_eq_true rfl) (t_X4_isFreeRun hi (by omega)) rfl ?_
    simp only [Option.toList, List.cons_append, List.nil_append]
    have bb := b2_rng (rf (n_st ν) ((k : Int)))
    refine g_z_eq (tgt := 21) (pc := 14) dX4_freeRun_14 (by omega) (by decide) (fun c14 => ?_) (fun c14 => ?_)
    · skip
      refine g_iload_n (i := 1) (pc := 21) dX4_freeRun_21 rfl rfl ?_
      refine g_istore_n (i := 1) (pc := 22) dX4_freeRun_22 rfl (by decide) rfl ?_
      simp only [List.set_cons_succ, List.set_cons_zero]
      refine g_iinc (pc := 23) dX4_freeRun_23 rfl (by decide) rfl ?_
      simp only [List.set_cons_succ, List.set_cons_zero]
      refine g_goto (tgt := 5) (pc := 26) dX4_freeRun_26 (by decide) ?_
      refine G.eqL (congrArg (fun z => [some (vR 79), some (vI (z)), some (vI ((k : Int) + (-1)))]) ?_) ih
      rw [fx_s hk, if_neg (b2_0.mp (by omega))]
    · skip
      refine g_iload_n (i := 2) (pc := 17) dX4_freeRun_17 rfl rfl ?_
      refine g_goto (tgt := 22) (pc := 18) dX4_freeRun_18 (by decide) ?_
      refine g_istore_n (i := 1) (pc := 22) dX4_freeRun_22 rfl (by decide) rfl ?_
      simp only [List.set_cons_succ, List.set_cons_zero]
      refine g_iinc (pc := 23) dX4_freeRun_23 rfl (by decide) rfl ?_
      simp only [List.set_cons_succ, List.set_cons_zero]
      refine g_goto (tgt := 5) (pc := 26) dX4_freeRun_26 (by decide) ?_
      refine G.eqL (congrArg (fun z => [some (vR 79), some (vI (z)), some (vI ((k : Int) + (-1)))]) ?_) ih
      rw [fx_s hk, if_pos (b2_1.mp (by omega))]
set_option maxRecDepth 20000 in
set_option maxHeartbeats 4000000 in
theorem t_X4_freeRuns {κ : KT} {ν : NT} {o : Nat → Int} {al : Bool} (hi : Inv (n_st ν)) : GM M_X4_freeRuns al [vR 79] (cW κ (dE ν) o) 0 0 (dt (some (vI (nfr (n_st ν)))) (cW κ (dE (ν)) o)) := by
  show G _ none _ _ 0 [some (vR 79), none, none] [] _ _ _ _
  refine g_iconst (pc := 0) dX4_freeRuns_0 ?_
  refine g_istore_n (i := 1) (pc := 1) dX4_freeRuns_1 rfl (by decide) rfl ?_
  simp only [List.set_cons_succ, List.set_cons_zero]
  refine g_iconst (pc := 2) dX4_freeRuns_2 ?_
  refine g_istore_n (i := 2) (pc := 3) dX4_freeRuns_3 rfl (by decide) rfl ?_
  simp only [List.set_cons_succ, List.set_cons_zero]
  refine lp_up (P := fun k => G M_X4_freeRuns none al al 4 [some (vR 79), some (vI (ct (fun r => rf (n_st ν) r) k)), some (vI k)] [] (cW κ (dE ν) o) 0 0 (dt (some (vI (nfr (n_st ν)))) (cW κ (dE (ν)) o))) 8 ?_ ?_ 0 (Nat.zero_le _)
  · show G _ _ _ _ _ _ _ _ _ _ _
    refine g_iload_n (i := 2) (pc := 4) dX4_freeRuns_4 rfl rfl ?_
    refine g_bipush (pc := 5) dX4_freeRuns_5 (by decide) ?_
    refine g_c_ge (tgt := 32) (pc := 7) dX4_freeRuns_7 (by omega) (by decide) (fun c7 => ?_) (fun c7 => absurd c7 (by omega))
    refine g_iload_n (i := 1) (pc := 32) dX4_freeRuns_32 rfl rfl ?_
    refine g_iret (pc := 33) rfl dX4_freeRuns_33 (fun h => h) ?_
    exact dt_i rfl rfl
  · intro k hk ih
    have yc := ct_rng (fun r => rf (n_st ν) r) k
    show G _ _ _ _ _ _ _ _ _ _ _
    refine g_iload_n (i := 2) (pc := 4) dX4_freeRuns_4 rfl rfl ?_
    refine g_bipush (pc := 5) dX4_freeRuns_5 (by decide) ?_
    refine g_c_ge (tgt := 32) (pc := 7) dX4_freeRuns_7 (by omega) (by decide) (fun c7 => absurd c7 (by omega)) (fun c7 => ?_)
    refine g_iload_n (i := 1) (pc := 10) dX4_freeRuns_10 rfl rfl ?_
    refine g_aload_n (i := 0) (pc := 11) dX4_freeRuns_11 rfl rfl ?_
    refine g_iload_n (i := 2) (pc := 12) dX4_freeRuns_12 rfl rfl ?_
    refine g_v1 (pc := 13) okV_X4_isFreeRun rfl l_X4_50 dX4_freeRuns_13 (c_79) hc_4 (by decide) (by decide) (Nat.le_of_ble_eq_true rfl) (t_X4_isFreeRun hi (by omega)) rfl ?_
    simp only [Option.toList, List.cons_append, List.nil_append]
    have bb := b2_rng (rf (n_st ν) ((k : Int)))
    refine g_z_eq (tgt := 23) (pc := 16) dX4_freeRuns_16 (by omega) (by decide) (fun c16 => ?_) (fun c16 => ?_)
    · skip
      refine g_iconst (pc := 23) dX4_freeRuns_23 ?_
      refine g_iadd (pc := 24) dX4_freeRuns_24 ?_
      refine g_istore_n (i := 1) (pc := 25) dX4_freeRuns_25 rfl (by decide) rfl ?_
      simp only [List.set_cons_succ, List.set_cons_zero]
      refine g_iinc (pc := 26) dX4_freeRuns_26 rfl (by decide) rfl ?_
      simp only [List.set_cons_succ, List.set_cons_zero]
      refine g_goto (tgt := 4) (pc := 29) dX4_freeRuns_29 (by decide) ?_
      refine G.eqL (congrArg (fun z => [some (vR 79), some (vI (z)), some (vI ((k : Int) + 1))]) ?_) ih
      refine Eq.trans (Int.add_zero _) ?_
      exact (ct_no (b2_0.mp (by omega))).symm
    · skip
      refine g_iconst (pc := 19) dX4_freeRuns_19 ?_
      refine g_goto (tgt := 24) (pc := 20) dX4_freeRuns_20 (by decide) ?_
      refine g_iadd (pc := 24) dX4_freeRuns_24 ?_
      refine g_istore_n (i := 1) (pc := 25) dX4_freeRuns_25 rfl (by decide) rfl ?_
      simp only [List.set_cons_succ, List.set_cons_zero]
      refine g_iinc (pc := 26) dX4_freeRuns_26 rfl (by decide) rfl ?_
      simp only [List.set_cons_succ, List.set_cons_zero]
      refine g_goto (tgt := 4) (pc := 29) dX4_freeRuns_29 (by decide) ?_
      refine G.eqL (congrArg (fun z => [some (vR 79), some (vI (z)), some (vI ((k : Int) + 1))]) ?_) ih
      exact (ct_yes (b2_1.mp (by omega))).symm
set_option maxRecDepth 20000 in
set_option maxHeartbeats 4000000 in
theorem t_X4_freeFrames {κ : KT} {ν : NT} {o : Nat → Int} {al : Bool} (hi : Inv (n_st ν)) : GM M_X4_freeFrames al [vR 79] (cW κ (dE ν) o) 0 0 (dt (some (vI (nff (n_st ν)))) (cW κ (dE (ν)) o)) := by
  show G _ none _ _ 0 [some (vR 79), none, none] [] _ _ _ _
  refine g_iconst (pc := 0) dX4_freeFrames_0 ?_
  refine g_istore_n (i := 1) (pc := 1) dX4_freeFrames_1 rfl (by decide) rfl ?_
  simp only [List.set_cons_succ, List.set_cons_zero]
  refine g_iconst (pc := 2) dX4_freeFrames_2 ?_
  refine g_istore_n (i := 2) (pc := 3) dX4_freeFrames_3 rfl (by decide) rfl ?_
  simp only [List.set_cons_succ, List.set_cons_zero]
  refine lp_up (P := fun k => G M_X4_freeFrames none al al 4 [some (vR 79), some (vI (ct (fun f => decide (uses (s_fr (n_st ν)) f = 0)) k)), some (vI k)] [] (cW κ (dE ν) o) 0 0 (dt (some (vI (nff (n_st ν)))) (cW κ (dE (ν)) o))) 32 ?_ ?_ 0 (Nat.zero_le _)
  · show G _ _ _ _ _ _ _ _ _ _ _
    refine g_iload_n (i := 2) (pc := 4) dX4_freeFrames_4 rfl rfl ?_
    refine g_bipush (pc := 5) dX4_freeFrames_5 (by decide) ?_
    refine g_c_ge (tgt := 32) (pc := 7) dX4_freeFrames_7 (by omega) (by decide) (fun c7 => ?_) (fun c7 => absurd c7 (by omega))
    refine g_iload_n (i := 1) (pc := 32) dX4_freeFrames_32 rfl rfl ?_
    refine g_iret (pc := 33) rfl dX4_freeFrames_33 (fun h => h) ?_
    exact dt_i rfl rfl
  · intro k hk ih
    have yc := ct_rng (fun f => decide (uses (s_fr (n_st ν)) f = 0)) k
    show G _ _ _ _ _ _ _ _ _ _ _
    refine g_iload_n (i := 2) (pc := 4) dX4_freeFrames_4 rfl rfl ?_
    refine g_bipush (pc := 5) dX4_freeFrames_5 (by decide) ?_
    refine g_c_ge (tgt := 32) (pc := 7) dX4_freeFrames_7 (by omega) (by decide) (fun c7 => absurd c7 (by omega)) (fun c7 => ?_)
    refine g_iload_n (i := 1) (pc := 10) dX4_freeFrames_10 rfl rfl ?_
    refine g_aload_n (i := 0) (pc := 11) dX4_freeFrames_11 rfl rfl ?_
    refine g_iload_n (i := 2) (pc := 12) dX4_freeFrames_12 rfl rfl ?_
    refine g_v1 (pc := 13) okV_X4_uses rfl l_X4_46 dX4_freeFrames_13 (c_79) hc_4 (by decide) (by decide) (Nat.le_of_ble_eq_true rfl) (t_X4_uses hi (by omega)) rfl ?_
    simp only [Option.toList, List.cons_append, List.nil_append]
    have bb := uses_rng (s_fr (n_st ν)) ((k : Int))
    refine g_z_ne (tgt := 23) (pc := 16) dX4_freeFrames_16 (by omega) (by decide) (fun c16 => ?_) (fun c16 => ?_)
    · skip
      refine g_iconst (pc := 23) dX4_freeFrames_23 ?_
      refine g_iadd (pc := 24) dX4_freeFrames_24 ?_
      refine g_istore_n (i := 1) (pc := 25) dX4_freeFrames_25 rfl (by decide) rfl ?_
      simp only [List.set_cons_succ, List.set_cons_zero]
      refine g_iinc (pc := 26) dX4_freeFrames_26 rfl (by decide) rfl ?_
      simp only [List.set_cons_succ, List.set_cons_zero]
      refine g_goto (tgt := 4) (pc := 29) dX4_freeFrames_29 (by decide) ?_
      refine G.eqL (congrArg (fun z => [some (vR 79), some (vI (z)), some (vI ((k : Int) + 1))]) ?_) ih
      refine Eq.trans (Int.add_zero _) ?_
      exact (ct_no (by rw [decide_eq_true_eq]; omega)).symm
    · skip
      refine g_iconst (pc := 19) dX4_freeFrames_19 ?_
      refine g_goto (tgt := 24) (pc := 20) dX4_freeFrames_20 (by decide) ?_
      refine g_iadd (pc := 24) dX4_freeFrames_24 ?_
      refine g_istore_n (i := 1) (pc := 25) dX4_freeFrames_25 rfl (by decide) rfl ?_
      simp only [List.set_cons_succ, List.set_cons_zero]
      refine g_iinc (pc := 26) dX4_freeFrames_26 rfl (by decide) rfl ?_
      simp only [List.set_cons_succ, List.set_cons_zero]
      refine g_goto (tgt := 4) (pc := 29) dX4_freeFrames_29 (by decide) ?_
      refine G.eqL (congrArg (fun z => [some (vR 79), some (vI (z)), some (vI ((k : Int) + 1))]) ?_) ih
      exact (ct_yes (by rw [decide_eq_true_eq]; omega)).symm
set_option maxRecDepth 20000 in
set_option maxHeartbeats 4000000 in
theorem t_X4_singleFrame {κ : KT} {ν : NT} {o : Nat → Int} {al : Bool} (hi : Inv (n_st ν)) : GM M_X4_singleFrame al [vR 79] (cW κ (dE ν) o) 0 0 (dt (some (vI (lsf (n_st ν)))) (cW κ (dE (ν)) o)) := by
  show G _ none _ _ 0 [some (vR 79), none, none, none, none] [] _ _ _ _
  refine g_iconst (pc := 0) dX4_singleFrame_0 ?_
  refine g_istore_n (i := 1) (pc := 1) dX4_singleFrame_1 rfl (by decide) rfl ?_
  simp only [List.set_cons_succ, List.set_cons_zero]
  refine g_iconst (pc := 2) dX4_singleFrame_2 ?_
  refine g_istore_n (i := 2) (pc := 3) dX4_singleFrame_3 rfl (by decide) rfl ?_
  simp only [List.set_cons_succ, List.set_cons_zero]
  refine g_bipush (pc := 4) dX4_singleFrame_4 (by decide) ?_
  refine g_istore_n (i := 3) (pc := 6) dX4_singleFrame_6 rfl (by decide) rfl ?_
  simp only [List.set_cons_succ, List.set_cons_zero]
  refine G.eqL (L' := [some (vR 79), some (vI (fx (fun f => decide (uses (s_fr (n_st ν)) f = 0) && !(rf (n_st ν) ((f : Int).tdiv 4))) 32 32)), some (vI (fx (fun f => decide (uses (s_fr (n_st ν)) f = 0)) 32 32)), some (vI (((32 : Nat) : Int) - 1)), none]) (by simp only [fx_n]; rfl) ?_
  refine lp_dn (P := fun k => G M_X4_singleFrame none al al 7 [some (vR 79), some (vI (fx (fun f => decide (uses (s_fr (n_st ν)) f = 0) && !(rf (n_st ν) ((f : Int).tdiv 4))) 32 k)), some (vI (fx (fun f => decide (uses (s_fr (n_st ν)) f = 0)) 32 k)), some (vI ((k : Int) - 1)), none] [] (cW κ (dE ν) o) 0 0 (dt (some (vI (lsf (n_st ν)))) (cW κ (dE (ν)) o))) 32 ?_ ?_
  · show G _ _ _ _ _ _ _ _ _ _ _
    have yf := fx_rng (fun f => decide (uses (s_fr (n_st ν)) f = 0) && !(rf (n_st ν) ((f : Int).tdiv 4))) 32 0
    have yg := fx_rng (fun f => decide (uses (s_fr (n_st ν)) f = 0)) 32 0
    refine g_iload_n (i := 3) (pc := 7) dX4_singleFrame_7 rfl rfl ?_
    refine g_z_lt (tgt := 64) (pc := 8) dX4_singleFrame_8 (by omega) (by decide) (fun c8 => ?_) (fun c8 => absurd c8 (by omega))
    refine g_iload_n (i := 1) (pc := 64) dX4_singleFrame_64 rfl rfl ?_
    refine g_iconst (pc := 65) dX4_singleFrame_65 ?_
    refine g_c_eq (tgt := 73) (pc := 66) dX4_singleFrame_66 (by omega) (by decide) (fun c66 => ?_) (fun c66 => ?_)
    · skip
      refine g_iload_n (i := 2) (pc := 73) dX4_singleFrame_73 rfl rfl ?_
      refine g_iret (pc := 74) rfl dX4_singleFrame_74 (fun h => h) ?_
      refine dt_i ?_ rfl
      simp only [fx_0] at *
      first
      | (unfold lsf lsf1 lsf0; rw [if_neg (by omega)])
      | (unfold lsf lsf1 lsf0; rw [if_pos (by omega)])
    · skip
      refine g_iload_n (i := 1) (pc := 69) dX4_singleFrame_69 rfl rfl ?_
      refine g_goto (tgt := 74) (pc := 70) dX4_singleFrame_70 (by decide) ?_
      refine g_iret (pc := 74) rfl dX4_singleFrame_74 (fun h => h) ?_
      refine dt_i ?_ rfl
      simp only [fx_0] at *
      first
      | (unfold lsf lsf1 lsf0; rw [if_neg (by omega)])
      | (unfold lsf lsf1 lsf0; rw [if_pos (by omega)])
  · intro k hk ih
    have yf := fx_rng (fun f => decide (uses (s_fr (n_st ν)) f = 0) && !(rf (n_st ν) ((f : Int).tdiv 4))) 32 (k + 1)
    have yg := fx_rng (fun f => decide (uses (s_fr (n_st ν)) f = 0)) 32 (k + 1)
    refine G.eqL (L' := [some (vR 79), some (vI (fx (fun f => decide (uses (s_fr (n_st ν)) f = 0) && !(rf (n_st ν) ((f : Int).tdiv 4))) 32 (k + 1))), some (vI (fx (fun f => decide (uses (s_fr (n_st ν)) f = 0)) 32 (k + 1))), some (vI (k : Int)), none]) (congrArg (fun z => [some (vR 79), some (vI (fx (fun f => decide (uses (s_fr (n_st ν)) f = 0) && !(rf (n_st ν) ((f : Int).tdiv 4))) 32 (k + 1))), some (vI (fx (fun f => decide (uses (s_fr (n_st ν)) f = 0)) 32 (k + 1))), some (vI z), none]) (show ((k + 1 : Nat) : Int) - 1 = (k : Int) by omega)) ?_
    show G _ _ _ _ _ _ _ _ _ _ _
    refine g_iload_n (i := 3) (pc := 7) dX4_singleFrame_7 rfl rfl ?_
    refine g_z_lt (tgt := 64) (pc := 8) dX4_singleFrame_8 (by omega) (by decide) (fun c8 => absurd c8 (by omega)) (fun c8 => ?_)
    refine g_aload_n (i := 0) (pc := 11) dX4_singleFrame_11 rfl rfl ?_
    refine g_iload_n (i := 3) (pc := 12) dX4_singleFrame_12 rfl rfl ?_
    refine g_v1 (pc := 13) okV_X4_uses rfl l_X4_46 dX4_singleFrame_13 (c_79) hc_4 (by decide) (by decide) (Nat.le_of_ble_eq_true rfl) (t_X4_uses hi (by omega)) rfl ?_
    simp only [Option.toList, List.cons_append, List.nil_append]
    have bb := uses_rng (s_fr (n_st ν)) ((k : Int))
    refine g_z_ne (tgt := 23) (pc := 16) dX4_singleFrame_16 (by omega) (by decide) (fun c16 => ?_) (fun c16 => ?_)
    · skip
      refine g_iconst (pc := 23) dX4_singleFrame_23 ?_
      refine g_istore (pc := 24) dX4_singleFrame_24 (by decide) rfl ?_
      simp only [List.set_cons_succ, List.set_cons_zero]
      refine g_iload (pc := 26) dX4_singleFrame_26 rfl ?_
      refine g_z_eq (tgt := 35) (pc := 28) dX4_singleFrame_28 (by omega) (by decide) (fun c28 => ?_) (fun c28 => absurd c28 (by omega))
      refine g_iload_n (i := 2) (pc := 35) dX4_singleFrame_35 rfl rfl ?_
      refine g_istore_n (i := 2) (pc := 36) dX4_singleFrame_36 rfl (by decide) rfl ?_
      simp only [List.set_cons_succ, List.set_cons_zero]
      refine g_iload (pc := 37) dX4_singleFrame_37 rfl ?_
      refine g_z_eq (tgt := 56) (pc := 39) dX4_singleFrame_39 (by omega) (by decide) (fun c39 => ?_) (fun c39 => absurd c39 (by omega))
      refine g_iload_n (i := 1) (pc := 56) dX4_singleFrame_56 rfl rfl ?_
      refine g_istore_n (i := 1) (pc := 57) dX4_singleFrame_57 rfl (by decide) rfl ?_
      simp only [List.set_cons_succ, List.set_cons_zero]
      refine g_iinc (pc := 58) dX4_singleFrame_58 rfl (by decide) rfl ?_
      simp only [List.set_cons_succ, List.set_cons_zero]
      refine g_goto (tgt := 7) (pc := 61) dX4_singleFrame_61 (by decide) ?_
      refine G.drop 4 ?_
      simp only [List.set_cons_succ, List.set_cons_zero]
      have e1 : fx (fun f => decide (uses (s_fr (n_st ν)) f = 0) && !(rf (n_st ν) ((f : Int).tdiv 4))) 32 k = fx (fun f => decide (uses (s_fr (n_st ν)) f = 0) && !(rf (n_st ν) ((f : Int).tdiv 4))) 32 (k + 1) := by
        rw [fx_s hk, if_neg (by rw [Bool.and_eq_true, decide_eq_true_eq]; omega)]
      have e2 : fx (fun f => decide (uses (s_fr (n_st ν)) f = 0)) 32 k = fx (fun f => decide (uses (s_fr (n_st ν)) f = 0)) 32 (k + 1) := by
        rw [fx_s hk, if_neg (by rw [decide_eq_true_eq]; omega)]
      refine G.eqL ?_ ih
      rw [e1, e2]
      rfl
    · skip
      refine g_iconst (pc := 19) dX4_singleFrame_19 ?_
      refine g_goto (tgt := 24) (pc := 20) dX4_singleFrame_20 (by decide) ?_
      refine g_istore (pc := 24) dX4_singleFrame_24 (by decide) rfl ?_
      simp only [List.set_cons_succ, List.set_cons_zero]
      refine g_iload (pc := 26) dX4_singleFrame_26 rfl ?_
      refine g_z_eq (tgt := 35) (pc := 28) dX4_singleFrame_28 (by omega) (by decide) (fun c28 => absurd c28 (by omega)) (fun c28 => ?_)
      refine g_iload_n (i := 3) (pc := 31) dX4_singleFrame_31 rfl rfl ?_
      refine g_goto (tgt := 36) (pc := 32) dX4_singleFrame_32 (by decide) ?_
      refine g_istore_n (i := 2) (pc := 36) dX4_singleFrame_36 rfl (by decide) rfl ?_
      simp only [List.set_cons_succ, List.set_cons_zero]
      refine g_iload (pc := 37) dX4_singleFrame_37 rfl ?_
      refine g_z_eq (tgt := 56) (pc := 39) dX4_singleFrame_39 (by omega) (by decide) (fun c39 => absurd c39 (by omega)) (fun c39 => ?_)
      refine g_aload_n (i := 0) (pc := 42) dX4_singleFrame_42 rfl rfl ?_
      refine g_iload_n (i := 3) (pc := 43) dX4_singleFrame_43 rfl rfl ?_
      refine g_iconst (pc := 44) dX4_singleFrame_44 ?_
      have d9 := Int.tdiv_eq_ediv_of_nonneg (a := (k : Int)) (b := 4) (by omega)
      refine g_idiv (pc := 45) dX4_singleFrame_45 (by omega) (by omega) ?_
      refine g_v1 (pc := 46) okV_X4_isFreeRun rfl l_X4_50 dX4_singleFrame_46 (c_79) hc_4 (by decide) (by decide) (Nat.le_of_ble_eq_true rfl) (t_X4_isFreeRun hi (by omega)) rfl ?_
      simp only [Option.toList, List.cons_append, List.nil_append]
      have bb := b2_rng (rf (n_st ν) ((Int.tdiv (k : Int) 4)))
      refine g_z_ne (tgt := 56) (pc := 49) dX4_singleFrame_49 (by omega) (by decide) (fun c49 => ?_) (fun c49 => ?_)
      · skip
        refine g_iload_n (i := 1) (pc := 56) dX4_singleFrame_56 rfl rfl ?_
        refine g_istore_n (i := 1) (pc := 57) dX4_singleFrame_57 rfl (by decide) rfl ?_
        simp only [List.set_cons_succ, List.set_cons_zero]
        refine g_iinc (pc := 58) dX4_singleFrame_58 rfl (by decide) rfl ?_
        simp only [List.set_cons_succ, List.set_cons_zero]
        refine g_goto (tgt := 7) (pc := 61) dX4_singleFrame_61 (by decide) ?_
        refine G.drop 4 ?_
        simp only [List.set_cons_succ, List.set_cons_zero]
        have e1 : fx (fun f => decide (uses (s_fr (n_st ν)) f = 0) && !(rf (n_st ν) ((f : Int).tdiv 4))) 32 k = fx (fun f => decide (uses (s_fr (n_st ν)) f = 0) && !(rf (n_st ν) ((f : Int).tdiv 4))) 32 (k + 1) := by
          rw [fx_s hk, if_neg (by rw [Bool.and_eq_true, decide_eq_true_eq, Bool.not_eq_true', Bool.eq_false_iff]; rintro ⟨q1, q2⟩; have q3 := b2_0.mpr q2; omega)]
        have e2 : fx (fun f => decide (uses (s_fr (n_st ν)) f = 0)) 32 k = (k : Int) := by
          rw [fx_s hk, if_pos (by rw [decide_eq_true_eq]; omega)]
        refine G.eqL ?_ ih
        rw [e1, e2]
        rfl
      · skip
        refine g_iload_n (i := 3) (pc := 52) dX4_singleFrame_52 rfl rfl ?_
        refine g_goto (tgt := 57) (pc := 53) dX4_singleFrame_53 (by decide) ?_
        refine g_istore_n (i := 1) (pc := 57) dX4_singleFrame_57 rfl (by decide) rfl ?_
        simp only [List.set_cons_succ, List.set_cons_zero]
        refine g_iinc (pc := 58) dX4_singleFrame_58 rfl (by decide) rfl ?_
        simp only [List.set_cons_succ, List.set_cons_zero]
        refine g_goto (tgt := 7) (pc := 61) dX4_singleFrame_61 (by decide) ?_
        refine G.drop 4 ?_
        simp only [List.set_cons_succ, List.set_cons_zero]
        have e1 : fx (fun f => decide (uses (s_fr (n_st ν)) f = 0) && !(rf (n_st ν) ((f : Int).tdiv 4))) 32 k = (k : Int) := by
          rw [fx_s hk, if_pos (by rw [Bool.and_eq_true, decide_eq_true_eq, Bool.not_eq_true', Bool.eq_false_iff]; exact ⟨by omega, b2_0.mp (by omega)⟩)]
        have e2 : fx (fun f => decide (uses (s_fr (n_st ν)) f = 0)) 32 k = (k : Int) := by
          rw [fx_s hk, if_pos (by rw [decide_eq_true_eq]; omega)]
        refine G.eqL ?_ ih
        rw [e1, e2]
        rfl
set_option maxRecDepth 20000 in
set_option maxHeartbeats 4000000 in
theorem t_X4_placedIn {κ : KT} {ν : NT} {o : Nat → Int} {al : Bool} (hi : Inv (n_st ν)) {p g : Int} (h_p : 0 ≤ p ∧ p < 4) (h_g : 0 ≤ g ∧ g < 4) : GM M_X4_placedIn al [vR 79, vI p, vI g] (cW κ (dE ν) o) 0 0 (dt (some (vI (pf (n_st ν) p g))) (cW κ (dE (ν)) o)) := by
  show G _ none _ _ 0 [some (vR 79), some (vI p), some (vI g), none, none] [] _ _ _ _
  refine g_iconst (pc := 0) dX4_placedIn_0 ?_
  refine g_istore_n (i := 3) (pc := 1) dX4_placedIn_1 rfl (by decide) rfl ?_
  simp only [List.set_cons_succ, List.set_cons_zero]
  refine g_iconst (pc := 2) dX4_placedIn_2 ?_
  refine g_istore (pc := 3) dX4_placedIn_3 (by decide) rfl ?_
  simp only [List.set_cons_succ, List.set_cons_zero]
  refine lp_up (P := fun k => G M_X4_placedIn none al al 5 [some (vR 79), some (vI p), some (vI g), some (vI (ct (fun i => decide (fo (n_st ν) p (4 * g + i) ≠ -1)) k)), some (vI k)] [] (cW κ (dE ν) o) 0 0 (dt (some (vI (pf (n_st ν) p g))) (cW κ (dE (ν)) o))) 4 ?_ ?_ 0 (Nat.zero_le _)
  · show G _ _ _ _ _ _ _ _ _ _ _
    refine g_iload (pc := 5) dX4_placedIn_5 rfl ?_
    refine g_iconst (pc := 7) dX4_placedIn_7 ?_
    refine g_c_ge (tgt := 40) (pc := 8) dX4_placedIn_8 (by omega) (by decide) (fun c8 => ?_) (fun c8 => absurd c8 (by omega))
    refine g_iload_n (i := 3) (pc := 40) dX4_placedIn_40 rfl rfl ?_
    refine g_iret (pc := 41) rfl dX4_placedIn_41 (fun h => h) ?_
    exact dt_i rfl rfl
  · intro k hk ih
    have yc := ct_rng (fun i => decide (fo (n_st ν) p (4 * g + i) ≠ -1)) k
    show G _ _ _ _ _ _ _ _ _ _ _
    refine g_iload (pc := 5) dX4_placedIn_5 rfl ?_
    refine g_iconst (pc := 7) dX4_placedIn_7 ?_
    refine g_c_ge (tgt := 40) (pc := 8) dX4_placedIn_8 (by omega) (by decide) (fun c8 => absurd c8 (by omega)) (fun c8 => ?_)
    refine g_iload_n (i := 3) (pc := 11) dX4_placedIn_11 rfl rfl ?_
    refine g_aload_n (i := 0) (pc := 12) dX4_placedIn_12 rfl rfl ?_
    refine g_iload_n (i := 1) (pc := 13) dX4_placedIn_13 rfl rfl ?_
    refine g_iconst (pc := 14) dX4_placedIn_14 ?_
    refine g_iload_n (i := 2) (pc := 15) dX4_placedIn_15 rfl rfl ?_
    refine g_imul (pc := 16) dX4_placedIn_16 ?_
    refine g_iload (pc := 17) dX4_placedIn_17 rfl ?_
    refine g_iadd (pc := 19) dX4_placedIn_19 ?_
    refine g_v2 (pc := 20) okV_X4_frameOf rfl l_X4_53 dX4_placedIn_20 (c_79) hc_4 (by decide) (by decide) (Nat.le_of_ble_eq_true rfl) (t_X4_frameOf hi (by omega) (by omega)) rfl ?_
    simp only [Option.toList, List.cons_append, List.nil_append]
    have bb := fo_rng (σ := (n_st ν)) hi (p) (((4 * g) + (k : Int)))
    refine g_iconst (pc := 23) dX4_placedIn_23 ?_
    refine g_c_ne (tgt := 31) (pc := 24) dX4_placedIn_24 (by omega) (by decide) (fun c24 => ?_) (fun c24 => ?_)
    · skip
      refine g_iconst (pc := 31) dX4_placedIn_31 ?_
      refine g_iadd (pc := 32) dX4_placedIn_32 ?_
      refine g_istore_n (i := 3) (pc := 33) dX4_placedIn_33 rfl (by decide) rfl ?_
      simp only [List.set_cons_succ, List.set_cons_zero]
      refine g_iinc (pc := 34) dX4_placedIn_34 rfl (by decide) rfl ?_
      simp only [List.set_cons_succ, List.set_cons_zero]
      refine g_goto (tgt := 5) (pc := 37) dX4_placedIn_37 (by decide) ?_
      refine G.eqL (congrArg (fun z => [some (vR 79), some (vI p), some (vI g), some (vI (z)), some (vI ((k : Int) + 1))]) ?_) ih
      exact (ct_yes (by rw [decide_eq_true_eq]; omega)).symm
    · skip
      refine g_iconst (pc := 27) dX4_placedIn_27 ?_
      refine g_goto (tgt := 32) (pc := 28) dX4_placedIn_28 (by decide) ?_
      refine g_iadd (pc := 32) dX4_placedIn_32 ?_
      refine g_istore_n (i := 3) (pc := 33) dX4_placedIn_33 rfl (by decide) rfl ?_
      simp only [List.set_cons_succ, List.set_cons_zero]
      refine g_iinc (pc := 34) dX4_placedIn_34 rfl (by decide) rfl ?_
      simp only [List.set_cons_succ, List.set_cons_zero]
      refine g_goto (tgt := 5) (pc := 37) dX4_placedIn_37 (by decide) ?_
      refine G.eqL (congrArg (fun z => [some (vR 79), some (vI p), some (vI g), some (vI (z)), some (vI ((k : Int) + 1))]) ?_) ih
      refine Eq.trans (Int.add_zero _) ?_
      exact (ct_no (by rw [decide_eq_true_eq]; omega)).symm
set_option maxRecDepth 20000 in
set_option maxHeartbeats 4000000 in
theorem t_X4_sharedIn {κ : KT} {ν : NT} {o : Nat → Int} {al : Bool} (hi : Inv (n_st ν)) {p g : Int} (h_p : 0 ≤ p ∧ p < 4) (h_g : 0 ≤ g ∧ g < 4) : GM M_X4_sharedIn al [vR 79, vI p, vI g] (cW κ (dE ν) o) 0 0 (dt (some (vI (ps (n_st ν) p g))) (cW κ (dE (ν)) o)) := by
  show G _ none _ _ 0 [some (vR 79), some (vI p), some (vI g), none, none] [] _ _ _ _
  refine g_iconst (pc := 0) dX4_sharedIn_0 ?_
  refine g_istore_n (i := 3) (pc := 1) dX4_sharedIn_1 rfl (by decide) rfl ?_
  simp only [List.set_cons_succ, List.set_cons_zero]
  refine g_iconst (pc := 2) dX4_sharedIn_2 ?_
  refine g_istore (pc := 3) dX4_sharedIn_3 (by decide) rfl ?_
  simp only [List.set_cons_succ, List.set_cons_zero]
  refine lp_up (P := fun k => G M_X4_sharedIn none al al 5 [some (vR 79), some (vI p), some (vI g), some (vI (ct (fun i => sh (n_st ν) (fo (n_st ν) p (4 * g + i))) k)), some (vI k)] [] (cW κ (dE ν) o) 0 0 (dt (some (vI (ps (n_st ν) p g))) (cW κ (dE (ν)) o))) 4 ?_ ?_ 0 (Nat.zero_le _)
  · show G _ _ _ _ _ _ _ _ _ _ _
    refine g_iload (pc := 5) dX4_sharedIn_5 rfl ?_
    refine g_iconst (pc := 7) dX4_sharedIn_7 ?_
    refine g_c_ge (tgt := 43) (pc := 8) dX4_sharedIn_8 (by omega) (by decide) (fun c8 => ?_) (fun c8 => absurd c8 (by omega))
    refine g_iload_n (i := 3) (pc := 43) dX4_sharedIn_43 rfl rfl ?_
    refine g_iret (pc := 44) rfl dX4_sharedIn_44 (fun h => h) ?_
    exact dt_i rfl rfl
  · intro k hk ih
    have yc := ct_rng (fun i => sh (n_st ν) (fo (n_st ν) p (4 * g + i))) k
    show G _ _ _ _ _ _ _ _ _ _ _
    refine g_iload (pc := 5) dX4_sharedIn_5 rfl ?_
    refine g_iconst (pc := 7) dX4_sharedIn_7 ?_
    refine g_c_ge (tgt := 43) (pc := 8) dX4_sharedIn_8 (by omega) (by decide) (fun c8 => absurd c8 (by omega)) (fun c8 => ?_)
    refine g_iload_n (i := 3) (pc := 11) dX4_sharedIn_11 rfl rfl ?_
    refine g_aload_n (i := 0) (pc := 12) dX4_sharedIn_12 rfl rfl ?_
    refine g_aload_n (i := 0) (pc := 13) dX4_sharedIn_13 rfl rfl ?_
    refine g_iload_n (i := 1) (pc := 14) dX4_sharedIn_14 rfl rfl ?_
    refine g_iconst (pc := 15) dX4_sharedIn_15 ?_
    refine g_iload_n (i := 2) (pc := 16) dX4_sharedIn_16 rfl rfl ?_
    refine g_imul (pc := 17) dX4_sharedIn_17 ?_
    refine g_iload (pc := 18) dX4_sharedIn_18 rfl ?_
    refine g_iadd (pc := 20) dX4_sharedIn_20 ?_
    refine g_v2 (pc := 21) okV_X4_frameOf rfl l_X4_53 dX4_sharedIn_21 (c_79) hc_4 (by decide) (by decide) (Nat.le_of_ble_eq_true rfl) (t_X4_frameOf hi (by omega) (by omega)) rfl ?_
    simp only [Option.toList, List.cons_append, List.nil_append]
    have bb := fo_rng (σ := (n_st ν)) hi (p) (((4 * g) + (k : Int)))
    refine g_v1 (pc := 24) okV_X4_isShared rfl l_X4_57 dX4_sharedIn_24 (c_79) hc_4 (by decide) (by decide) (Nat.le_of_ble_eq_true rfl) (t_X4_isShared hi (by omega)) rfl ?_
    simp only [Option.toList, List.cons_append, List.nil_append]
    have bb := b2_rng (sh (n_st ν) ((fo (n_st ν) (p) (((4 * g) + (k : Int))))))
    refine g_z_eq (tgt := 34) (pc := 27) dX4_sharedIn_27 (by omega) (by decide) (fun c27 => ?_) (fun c27 => ?_)
    · skip
      refine g_iconst (pc := 34) dX4_sharedIn_34 ?_
      refine g_iadd (pc := 35) dX4_sharedIn_35 ?_
      refine g_istore_n (i := 3) (pc := 36) dX4_sharedIn_36 rfl (by decide) rfl ?_
      simp only [List.set_cons_succ, List.set_cons_zero]
      refine g_iinc (pc := 37) dX4_sharedIn_37 rfl (by decide) rfl ?_
      simp only [List.set_cons_succ, List.set_cons_zero]
      refine g_goto (tgt := 5) (pc := 40) dX4_sharedIn_40 (by decide) ?_
      refine G.eqL (congrArg (fun z => [some (vR 79), some (vI p), some (vI g), some (vI (z)), some (vI ((k : Int) + 1))]) ?_) ih
      refine Eq.trans (Int.add_zero _) ?_
      exact (ct_no (b2_0.mp (by omega))).symm
    · skip
      refine g_iconst (pc := 30) dX4_sharedIn_30 ?_
      refine g_goto (tgt := 35) (pc := 31) dX4_sharedIn_31 (by decide) ?_
      refine g_iadd (pc := 35) dX4_sharedIn_35 ?_
      refine g_istore_n (i := 3) (pc := 36) dX4_sharedIn_36 rfl (by decide) rfl ?_
      simp only [List.set_cons_succ, List.set_cons_zero]
      refine g_iinc (pc := 37) dX4_sharedIn_37 rfl (by decide) rfl ?_
      simp only [List.set_cons_succ, List.set_cons_zero]
      refine g_goto (tgt := 5) (pc := 40) dX4_sharedIn_40 (by decide) ?_
      refine G.eqL (congrArg (fun z => [some (vR 79), some (vI p), some (vI g), some (vI (z)), some (vI ((k : Int) + 1))]) ?_) ih
      exact (ct_yes (b2_1.mp (by omega))).symm
set_option maxRecDepth 20000 in
set_option maxHeartbeats 4000000 in
theorem t_X4_runOf {κ : KT} {ν : NT} {o : Nat → Int} {al : Bool} (hi : Inv (n_st ν)) {p g : Int} (h_p : 0 ≤ p ∧ p < 4) (h_g : 0 ≤ g ∧ g < 4) : GM M_X4_runOf al [vR 79, vI p, vI g] (cW κ (dE ν) o) 0 0 (dt (some (vI (ro (n_st ν) p g))) (cW κ (dE (ν)) o)) := by
  show G _ none _ _ 0 [some (vR 79), some (vI p), some (vI g)] [] _ _ _ _
  refine g_aload_n (i := 0) (pc := 0) dX4_runOf_0 rfl rfl ?_
  refine g_iload_n (i := 1) (pc := 1) dX4_runOf_1 rfl rfl ?_
  refine g_iload_n (i := 2) (pc := 2) dX4_runOf_2 rfl rfl ?_
  refine g_v2 (pc := 3) okV_X4_isBig rfl l_X4_60 dX4_runOf_3 (c_79) hc_4 (by decide) (by decide) (Nat.le_of_ble_eq_true rfl) (t_X4_isBig hi (by omega) (by omega)) rfl ?_
  simp only [Option.toList, List.cons_append, List.nil_append]
  have bb := b2_rng (big (n_st ν) (p) (g))
  refine g_z_eq (tgt := 22) (pc := 6) dX4_runOf_6 (by omega) (by decide) (fun c6 => ?_) (fun c6 => ?_)
  · skip
    refine g_iconst (pc := 22) dX4_runOf_22 ?_
    refine g_iret (pc := 23) rfl dX4_runOf_23 (fun h => h) ?_
    first
    | exact dt_i (by unfold ro; rw [if_neg (b2_0.mp (by omega))]) rfl
    | exact dt_i (by unfold ro; rw [if_pos (b2_1.mp (by omega))]) rfl
  · skip
    refine g_aload_n (i := 0) (pc := 9) dX4_runOf_9 rfl rfl ?_
    refine g_iload_n (i := 1) (pc := 10) dX4_runOf_10 rfl rfl ?_
    refine g_iconst (pc := 11) dX4_runOf_11 ?_
    refine g_iload_n (i := 2) (pc := 12) dX4_runOf_12 rfl rfl ?_
    refine g_imul (pc := 13) dX4_runOf_13 ?_
    refine g_v2 (pc := 14) okV_X4_frameOf rfl l_X4_53 dX4_runOf_14 (c_79) hc_4 (by decide) (by decide) (Nat.le_of_ble_eq_true rfl) (t_X4_frameOf hi (by omega) (by omega)) rfl ?_
    simp only [Option.toList, List.cons_append, List.nil_append]
    have bb := fo_rng (σ := (n_st ν)) hi (p) ((4 * g))
    refine g_iconst (pc := 17) dX4_runOf_17 ?_
    refine g_idiv (pc := 18) dX4_runOf_18 (by omega) (by omega) ?_
    refine g_goto (tgt := 23) (pc := 19) dX4_runOf_19 (by decide) ?_
    refine g_iret (pc := 23) rfl dX4_runOf_23 (fun h => h) ?_
    first
    | exact dt_i (by unfold ro; rw [if_neg (b2_0.mp (by omega))]) rfl
    | exact dt_i (by unfold ro; rw [if_pos (b2_1.mp (by omega))]) rfl
set_option maxRecDepth 20000 in
set_option maxHeartbeats 4000000 in
theorem t_X4_isWidow {κ : KT} {ν : NT} {o : Nat → Int} {al : Bool} (hi : Inv (n_st ν)) {p g : Int} (h_p : 0 ≤ p ∧ p < 4) (h_g : 0 ≤ g ∧ g < 4) : GM M_X4_isWidow al [vR 79, vI p, vI g] (cW κ (dE ν) o) 0 0 (dt (some (vI (b2 (wid (n_st ν) p g)))) (cW κ (dE (ν)) o)) := by
  show G _ none _ _ 0 [some (vR 79), some (vI p), some (vI g), none, none, none] [] _ _ _ _
  refine g_aload_n (i := 0) (pc := 0) dX4_isWidow_0 rfl rfl ?_
  refine g_iload_n (i := 1) (pc := 1) dX4_isWidow_1 rfl rfl ?_
  refine g_iload_n (i := 2) (pc := 2) dX4_isWidow_2 rfl rfl ?_
  refine g_v2 (pc := 3) okV_X4_isBig rfl l_X4_60 dX4_isWidow_3 (c_79) hc_4 (by decide) (by decide) (Nat.le_of_ble_eq_true rfl) (t_X4_isBig hi (by omega) (by omega)) rfl ?_
  simp only [Option.toList, List.cons_append, List.nil_append]
  have bb := b2_rng (big (n_st ν) (p) (g))
  refine g_z_eq (tgt := 18) (pc := 6) dX4_isWidow_6 (by omega) (by decide) (fun c6 => ?_) (fun c6 => ?_)
  · skip
    refine g_iconst (pc := 18) dX4_isWidow_18 ?_
    refine g_zret (pc := 19) rfl dX4_isWidow_19 (by omega) (fun h => h) ?_
    refine dt_i (b2_f ?_).symm rfl
    simp only [wid, Bool.and_eq_true, decide_eq_true_eq]
    rintro ⟨⟨q1, q2⟩, q3⟩
    have q4 := b2_1.mpr q1
    omega
  · skip
    refine g_aload_n (i := 0) (pc := 9) dX4_isWidow_9 rfl rfl ?_
    refine g_iload_n (i := 1) (pc := 10) dX4_isWidow_10 rfl rfl ?_
    refine g_iload_n (i := 2) (pc := 11) dX4_isWidow_11 rfl rfl ?_
    refine g_v2 (pc := 12) okV_X4_sharedIn rfl l_X4_64 dX4_isWidow_12 (c_79) hc_4 (by decide) (by decide) (Nat.le_of_ble_eq_true rfl) (t_X4_sharedIn hi (by omega) (by omega)) rfl ?_
    simp only [Option.toList, List.cons_append, List.nil_append]
    have bb := ps_rng (n_st ν) (p) (g)
    refine g_z_ne (tgt := 20) (pc := 15) dX4_isWidow_15 (by omega) (by decide) (fun c15 => ?_) (fun c15 => ?_)
    · skip
      have h_b : big (n_st ν) p g = true := b2_1.mp (by omega)
      refine g_iconst (pc := 20) dX4_isWidow_20 ?_
      refine g_istore_n (i := 3) (pc := 21) dX4_isWidow_21 rfl (by decide) rfl ?_
      simp only [List.set_cons_succ, List.set_cons_zero]
      refine g_iconst (pc := 22) dX4_isWidow_22 ?_
      refine g_istore (pc := 23) dX4_isWidow_23 (by decide) rfl ?_
      simp only [List.set_cons_succ, List.set_cons_zero]
      refine lp_up (P := fun k => G M_X4_isWidow none al al 25 [some (vR 79), some (vI p), some (vI g), some (vI (ct (fun i => decide (ro (n_st ν) ((i / 4 : Nat) : Int) ((i % 4 : Nat) : Int) = ro (n_st ν) p g)) (4 * k))), some (vI k), none] [] (cW κ (dE ν) o) 0 0 (dt (some (vI (b2 (wid (n_st ν) p g)))) (cW κ (dE (ν)) o))) 4 ?_ ?_ 0 (Nat.zero_le _)
      · show G _ _ _ _ _ _ _ _ _ _ _
        have yc := ct_rng (fun i => decide (ro (n_st ν) ((i / 4 : Nat) : Int) ((i % 4 : Nat) : Int) = ro (n_st ν) p g)) 16
        refine g_iload (pc := 25) dX4_isWidow_25 rfl ?_
        refine g_iconst (pc := 27) dX4_isWidow_27 ?_
        refine g_c_ge (tgt := 77) (pc := 28) dX4_isWidow_28 (by omega) (by decide) (fun c28 => ?_) (fun c28 => absurd c28 (by omega))
        refine g_iload_n (i := 3) (pc := 77) dX4_isWidow_77 rfl rfl ?_
        refine G.eqS (congrArg (fun z => vI z) (show _ = ct (fun i => decide (ro (n_st ν) ((i / 4 : Nat) : Int) ((i % 4 : Nat) : Int) = ro (n_st ν) p g)) 16 from rfl)) ?_
        refine g_iconst (pc := 78) dX4_isWidow_78 ?_
        refine g_c_ne (tgt := 86) (pc := 79) dX4_isWidow_79 (by omega) (by decide) (fun c79 => ?_) (fun c79 => ?_)
        · skip
          refine g_iconst (pc := 86) dX4_isWidow_86 ?_
          refine g_zret (pc := 87) rfl dX4_isWidow_87 (by omega) (fun h => h) ?_
          have e9 : brun (n_st ν) (ro (n_st ν) p g) = ct (fun i => decide (ro (n_st ν) ((i / 4 : Nat) : Int) ((i % 4 : Nat) : Int) = ro (n_st ν) p g)) 16 := rfl
          first
          | exact dt_i (b2_t (by simp only [wid, Bool.and_eq_true, decide_eq_true_eq]; exact ⟨⟨h_b, by omega⟩, by omega⟩)).symm rfl
          | exact dt_i (b2_f (by simp only [wid, Bool.and_eq_true, decide_eq_true_eq]; rintro ⟨⟨q1, q2⟩, q3⟩; omega)).symm rfl
        · skip
          refine g_iconst (pc := 82) dX4_isWidow_82 ?_
          refine g_goto (tgt := 87) (pc := 83) dX4_isWidow_83 (by decide) ?_
          refine g_zret (pc := 87) rfl dX4_isWidow_87 (by omega) (fun h => h) ?_
          have e9 : brun (n_st ν) (ro (n_st ν) p g) = ct (fun i => decide (ro (n_st ν) ((i / 4 : Nat) : Int) ((i % 4 : Nat) : Int) = ro (n_st ν) p g)) 16 := rfl
          first
          | exact dt_i (b2_t (by simp only [wid, Bool.and_eq_true, decide_eq_true_eq]; exact ⟨⟨h_b, by omega⟩, by omega⟩)).symm rfl
          | exact dt_i (b2_f (by simp only [wid, Bool.and_eq_true, decide_eq_true_eq]; rintro ⟨⟨q1, q2⟩, q3⟩; omega)).symm rfl
      · intro k hk ih
        show G _ _ _ _ _ _ _ _ _ _ _
        refine g_iload (pc := 25) dX4_isWidow_25 rfl ?_
        refine g_iconst (pc := 27) dX4_isWidow_27 ?_
        refine g_c_ge (tgt := 77) (pc := 28) dX4_isWidow_28 (by omega) (by decide) (fun c28 => absurd c28 (by omega)) (fun c28 => ?_)
        refine g_iconst (pc := 31) dX4_isWidow_31 ?_
        refine g_istore (pc := 32) dX4_isWidow_32 (by decide) rfl ?_
        simp only [List.set_cons_succ, List.set_cons_zero]
        refine lp_up (P := fun j => G M_X4_isWidow none al al 34 [some (vR 79), some (vI p), some (vI g), some (vI (ct (fun i => decide (ro (n_st ν) ((i / 4 : Nat) : Int) ((i % 4 : Nat) : Int) = ro (n_st ν) p g)) (4 * k + j))), some (vI k), some (vI j)] [] (cW κ (dE ν) o) 0 0 (dt (some (vI (b2 (wid (n_st ν) p g)))) (cW κ (dE (ν)) o))) 4 ?_ ?_ 0 (Nat.zero_le _)
        · show G _ _ _ _ _ _ _ _ _ _ _
          refine g_iload (pc := 34) dX4_isWidow_34 rfl ?_
          refine g_iconst (pc := 36) dX4_isWidow_36 ?_
          refine g_c_ge (tgt := 71) (pc := 37) dX4_isWidow_37 (by omega) (by decide) (fun c37 => ?_) (fun c37 => absurd c37 (by omega))
          refine g_iinc (pc := 71) dX4_isWidow_71 rfl (by decide) rfl ?_
          simp only [List.set_cons_succ, List.set_cons_zero]
          refine g_goto (tgt := 25) (pc := 74) dX4_isWidow_74 (by decide) ?_
          refine G.drop 5 ?_
          simp only [List.set_cons_succ, List.set_cons_zero]
          exact ih
        · intro j hj ih2
          have yc := ct_rng (fun i => decide (ro (n_st ν) ((i / 4 : Nat) : Int) ((i % 4 : Nat) : Int) = ro (n_st ν) p g)) (4 * k + j)
          show G _ _ _ _ _ _ _ _ _ _ _
          refine g_iload (pc := 34) dX4_isWidow_34 rfl ?_
          refine g_iconst (pc := 36) dX4_isWidow_36 ?_
          refine g_c_ge (tgt := 71) (pc := 37) dX4_isWidow_37 (by omega) (by decide) (fun c37 => absurd c37 (by omega)) (fun c37 => ?_)
          refine g_iload_n (i := 3) (pc := 40) dX4_isWidow_40 rfl rfl ?_
          refine g_aload_n (i := 0) (pc := 41) dX4_isWidow_41 rfl rfl ?_
          refine g_iload (pc := 42) dX4_isWidow_42 rfl ?_
          refine g_iload (pc := 44) dX4_isWidow_44 rfl ?_
          refine g_v2 (pc := 46) okV_X4_runOf rfl l_X4_67 dX4_isWidow_46 (c_79) hc_4 (by decide) (by decide) (Nat.le_of_ble_eq_true rfl) (t_X4_runOf hi (by omega) (by omega)) rfl ?_
          simp only [Option.toList, List.cons_append, List.nil_append]
          have bb := ro_rng (σ := (n_st ν)) hi ((k : Int)) ((j : Int))
          refine g_aload_n (i := 0) (pc := 49) dX4_isWidow_49 rfl rfl ?_
          refine g_iload_n (i := 1) (pc := 50) dX4_isWidow_50 rfl rfl ?_
          refine g_iload_n (i := 2) (pc := 51) dX4_isWidow_51 rfl rfl ?_
          refine g_v2 (pc := 52) okV_X4_runOf rfl l_X4_67 dX4_isWidow_52 (c_79) hc_4 (by decide) (by decide) (Nat.le_of_ble_eq_true rfl) (t_X4_runOf hi (by omega) (by omega)) rfl ?_
          simp only [Option.toList, List.cons_append, List.nil_append]
          have bb := ro_rng (σ := (n_st ν)) hi (p) (g)
          refine g_c_ne (tgt := 62) (pc := 55) dX4_isWidow_55 (by omega) (by decide) (fun c55 => ?_) (fun c55 => ?_)
          · skip
            refine g_iconst (pc := 62) dX4_isWidow_62 ?_
            refine g_iadd (pc := 63) dX4_isWidow_63 ?_
            refine g_istore_n (i := 3) (pc := 64) dX4_isWidow_64 rfl (by decide) rfl ?_
            simp only [List.set_cons_succ, List.set_cons_zero]
            refine g_iinc (pc := 65) dX4_isWidow_65 rfl (by decide) rfl ?_
            simp only [List.set_cons_succ, List.set_cons_zero]
            refine g_goto (tgt := 34) (pc := 68) dX4_isWidow_68 (by decide) ?_
            refine G.eqL (congrArg (fun z => [some (vR 79), some (vI p), some (vI g), some (vI (z)), some (vI (k : Int)), some (vI ((j : Int) + 1))]) ?_) ih2
            refine Eq.trans (Int.add_zero _) ?_
            exact (ct_no (by rw [show (4 * k + j) / 4 = k by omega, show (4 * k + j) % 4 = j by omega]; rw [decide_eq_true_eq]; omega)).symm
          · skip
            refine g_iconst (pc := 58) dX4_isWidow_58 ?_
            refine g_goto (tgt := 63) (pc := 59) dX4_isWidow_59 (by decide) ?_
            refine g_iadd (pc := 63) dX4_isWidow_63 ?_
            refine g_istore_n (i := 3) (pc := 64) dX4_isWidow_64 rfl (by decide) rfl ?_
            simp only [List.set_cons_succ, List.set_cons_zero]
            refine g_iinc (pc := 65) dX4_isWidow_65 rfl (by decide) rfl ?_
            simp only [List.set_cons_succ, List.set_cons_zero]
            refine g_goto (tgt := 34) (pc := 68) dX4_isWidow_68 (by decide) ?_
            refine G.eqL (congrArg (fun z => [some (vR 79), some (vI p), some (vI g), some (vI (z)), some (vI (k : Int)), some (vI ((j : Int) + 1))]) ?_) ih2
            exact (ct_yes (by rw [show (4 * k + j) / 4 = k by omega, show (4 * k + j) % 4 = j by omega]; rw [decide_eq_true_eq]; omega)).symm
    · skip
      refine g_iconst (pc := 18) dX4_isWidow_18 ?_
      refine g_zret (pc := 19) rfl dX4_isWidow_19 (by omega) (fun h => h) ?_
      refine dt_i (b2_f ?_).symm rfl
      simp only [wid, Bool.and_eq_true, decide_eq_true_eq]
      rintro ⟨⟨q1, q2⟩, q3⟩
      have q4 := b2_1.mpr q1
      omega
set_option maxRecDepth 20000 in
set_option maxHeartbeats 4000000 in
theorem t_X4_isEagerFault {κ : KT} {ν : NT} {o : Nat → Int} {al : Bool} (hi : Inv (n_st ν)) {p v : Int} (h_p : 0 ≤ p ∧ p < 4) (h_v : 0 ≤ v ∧ v < 16) : GM M_X4_isEagerFault al [vR 79, vI p, vI v] (cW κ (dE ν) o) 0 0 (dt (some (vI (b2 (eaf (n_st ν) p v)))) (cW κ (dE (ν)) o)) := by
  show G _ none _ _ 0 [some (vR 79), some (vI p), some (vI v)] [] _ _ _ _
  refine g_aload_n (i := 0) (pc := 0) dX4_isEagerFault_0 rfl rfl ?_
  refine g_getf (pc := 1) f_X4_7 dX4_isEagerFault_1 (c_79) rfl ?_
  refine g_bipush (pc := 4) dX4_isEagerFault_4 (by decide) ?_
  refine g_iald (pc := 6) dX4_isEagerFault_6 (c_80) (by omega) ?_
  refine G.eqS (congrArg (fun z => vI z) (show _ = s_ea (n_st ν) from rfl)) ?_
  have z9 := hi.2.2.2.2.2.2.2.2.1
  refine g_iconst (pc := 7) dX4_isEagerFault_7 ?_
  refine g_c_ne (tgt := 34) (pc := 8) dX4_isEagerFault_8 (by omega) (by decide) (fun c8 => ?_) (fun c8 => ?_)
  · skip
    refine g_iconst (pc := 34) dX4_isEagerFault_34 ?_
    refine g_zret (pc := 35) rfl dX4_isEagerFault_35 (by omega) (fun h => h) ?_
    first
    | exact dt_i (b2_t (by unfold eaf; rw [decide_eq_true_eq]; omega)).symm rfl
    | exact dt_i (b2_f (by unfold eaf; rw [decide_eq_true_eq]; omega)).symm rfl
  · skip
    refine g_aload_n (i := 0) (pc := 11) dX4_isEagerFault_11 rfl rfl ?_
    have d9 := Int.tdiv_eq_ediv_of_nonneg (a := v) (b := 4) (by omega)
    refine g_iload_n (i := 1) (pc := 12) dX4_isEagerFault_12 rfl rfl ?_
    refine g_iload_n (i := 2) (pc := 13) dX4_isEagerFault_13 rfl rfl ?_
    refine g_iconst (pc := 14) dX4_isEagerFault_14 ?_
    refine g_idiv (pc := 15) dX4_isEagerFault_15 (by omega) (by omega) ?_
    refine g_v2 (pc := 16) okV_X4_placedIn rfl l_X4_70 dX4_isEagerFault_16 (c_79) hc_4 (by decide) (by decide) (Nat.le_of_ble_eq_true rfl) (t_X4_placedIn hi (by omega) (by omega)) rfl ?_
    simp only [Option.toList, List.cons_append, List.nil_append]
    have bb := pf_rng (n_st ν) (p) ((Int.tdiv v 4))
    refine g_z_ne (tgt := 34) (pc := 19) dX4_isEagerFault_19 (by omega) (by decide) (fun c19 => ?_) (fun c19 => ?_)
    · skip
      refine g_iconst (pc := 34) dX4_isEagerFault_34 ?_
      refine g_zret (pc := 35) rfl dX4_isEagerFault_35 (by omega) (fun h => h) ?_
      first
      | exact dt_i (b2_t (by unfold eaf; rw [decide_eq_true_eq]; omega)).symm rfl
      | exact dt_i (b2_f (by unfold eaf; rw [decide_eq_true_eq]; omega)).symm rfl
    · skip
      refine g_aload_n (i := 0) (pc := 22) dX4_isEagerFault_22 rfl rfl ?_
      refine g_v0 (pc := 23) okV_X4_freeRun rfl l_X4_73 dX4_isEagerFault_23 (c_79) hc_4 (by decide) (by decide) (Nat.le_of_ble_eq_true rfl) (t_X4_freeRun hi) rfl ?_
      simp only [Option.toList, List.cons_append, List.nil_append]
      have bb := lfr_rng (n_st ν)
      refine g_iconst (pc := 26) dX4_isEagerFault_26 ?_
      refine g_c_eq (tgt := 34) (pc := 27) dX4_isEagerFault_27 (by omega) (by decide) (fun c27 => ?_) (fun c27 => ?_)
      · skip
        refine g_iconst (pc := 34) dX4_isEagerFault_34 ?_
        refine g_zret (pc := 35) rfl dX4_isEagerFault_35 (by omega) (fun h => h) ?_
        first
        | exact dt_i (b2_t (by unfold eaf; rw [decide_eq_true_eq]; omega)).symm rfl
        | exact dt_i (b2_f (by unfold eaf; rw [decide_eq_true_eq]; omega)).symm rfl
      · skip
        refine g_iconst (pc := 30) dX4_isEagerFault_30 ?_
        refine g_goto (tgt := 35) (pc := 31) dX4_isEagerFault_31 (by decide) ?_
        refine g_zret (pc := 35) rfl dX4_isEagerFault_35 (by omega) (fun h => h) ?_
        first
        | exact dt_i (b2_t (by unfold eaf; rw [decide_eq_true_eq]; omega)).symm rfl
        | exact dt_i (b2_f (by unfold eaf; rw [decide_eq_true_eq]; omega)).symm rfl
set_option maxRecDepth 20000 in
set_option maxHeartbeats 4000000 in
theorem t_X4_outcome {κ : KT} {ν : NT} {o : Nat → Int} {al : Bool} (hi : Inv (n_st ν)) {p v : Int} (h_pg : hasPg (n_st ν) p v = true) : GM M_X4_outcome al [vR 79, vI p, vI v] (cW κ (dE ν) o) 0 0 (dt (some (vI (oc (n_st ν) p v))) (cW κ (dE (ν)) o)) := by
  show G _ none _ _ 0 [some (vR 79), some (vI p), some (vI v), none] [] _ _ _ _
  obtain ⟨⟨h_p1, h_p2, h_e⟩, h_v1, h_v2⟩ := ex_pg h_pg
  have k1 := lsf_nff (n_st ν)
  have k2 := lfr_nff (σ := n_st ν)
  have k3 := nff_rng (n_st ν)
  
  refine g_aload_n (i := 0) (pc := 0) dX4_outcome_0 rfl rfl ?_
  refine g_iload_n (i := 1) (pc := 1) dX4_outcome_1 rfl rfl ?_
  refine g_iload_n (i := 2) (pc := 2) dX4_outcome_2 rfl rfl ?_
  refine g_v2 (pc := 3) okV_X4_frameOf rfl l_X4_53 dX4_outcome_3 (c_79) hc_4 (by decide) (by decide) (Nat.le_of_ble_eq_true rfl) (t_X4_frameOf hi (by omega) (by omega)) rfl ?_
  simp only [Option.toList, List.cons_append, List.nil_append]
  have bb := fo_rng (σ := (n_st ν)) hi (p) (v)
  refine g_istore_n (i := 3) (pc := 6) dX4_outcome_6 rfl (by decide) rfl ?_
  simp only [List.set_cons_succ, List.set_cons_zero]
  refine g_iload_n (i := 3) (pc := 7) dX4_outcome_7 rfl rfl ?_
  refine g_iconst (pc := 8) dX4_outcome_8 ?_
  refine g_c_ne (tgt := 35) (pc := 9) dX4_outcome_9 (by omega) (by decide) (fun c9 => ?_) (fun c9 => ?_)
  · skip
    refine g_aload_n (i := 0) (pc := 35) dX4_outcome_35 rfl rfl ?_
    refine g_iload_n (i := 3) (pc := 36) dX4_outcome_36 rfl rfl ?_
    refine g_v1 (pc := 37) okV_X4_isShared rfl l_X4_57 dX4_outcome_37 (c_79) hc_4 (by decide) (by decide) (Nat.le_of_ble_eq_true rfl) (t_X4_isShared hi (by omega)) rfl ?_
    simp only [Option.toList, List.cons_append, List.nil_append]
    have bb := b2_rng (sh (n_st ν) ((fo (n_st ν) (p) (v))))
    refine g_z_ne (tgt := 45) (pc := 40) dX4_outcome_40 (by omega) (by decide) (fun c40 => ?_) (fun c40 => ?_)
    · skip
      refine g_aload_n (i := 0) (pc := 45) dX4_outcome_45 rfl rfl ?_
      refine g_v0 (pc := 46) okV_X4_singleFrame rfl l_X4_80 dX4_outcome_46 (c_79) hc_4 (by decide) (by decide) (Nat.le_of_ble_eq_true rfl) (t_X4_singleFrame hi) rfl ?_
      simp only [Option.toList, List.cons_append, List.nil_append]
      have bb := lsf_rng (n_st ν)
      refine g_iconst (pc := 49) dX4_outcome_49 ?_
      refine g_c_ne (tgt := 57) (pc := 50) dX4_outcome_50 (by omega) (by decide) (fun c50 => ?_) (fun c50 => ?_)
      · skip
        refine g_aload_n (i := 0) (pc := 57) dX4_outcome_57 rfl rfl ?_
        have d9 := Int.tdiv_eq_ediv_of_nonneg (a := v) (b := 4) (by omega)
        refine g_iload_n (i := 1) (pc := 58) dX4_outcome_58 rfl rfl ?_
        refine g_iload_n (i := 2) (pc := 59) dX4_outcome_59 rfl rfl ?_
        refine g_iconst (pc := 60) dX4_outcome_60 ?_
        refine g_idiv (pc := 61) dX4_outcome_61 (by omega) (by omega) ?_
        refine g_v2 (pc := 62) okV_X4_isBig rfl l_X4_60 dX4_outcome_62 (c_79) hc_4 (by decide) (by decide) (Nat.le_of_ble_eq_true rfl) (t_X4_isBig hi (by omega) (by omega)) rfl ?_
        simp only [Option.toList, List.cons_append, List.nil_append]
        have bb := b2_rng (big (n_st ν) (p) ((Int.tdiv v 4)))
        refine g_z_eq (tgt := 72) (pc := 65) dX4_outcome_65 (by omega) (by decide) (fun c65 => ?_) (fun c65 => ?_)
        · skip
          refine g_iconst (pc := 72) dX4_outcome_72 ?_
          refine g_iret (pc := 73) rfl dX4_outcome_73 (fun h => h) ?_
          have k5 : sh (n_st ν) (fo (n_st ν) p v) = true := b2_1.mp (by omega)
          refine dt_i ?_ rfl
          unfold oc
          rw [if_pos h_pg, if_neg (fun h => h.2 k5), if_neg (by omega), if_neg (by omega), if_neg (b2_0.mp (by omega))]
        · skip
          refine g_iconst (pc := 68) dX4_outcome_68 ?_
          refine g_goto (tgt := 73) (pc := 69) dX4_outcome_69 (by decide) ?_
          refine g_iret (pc := 73) rfl dX4_outcome_73 (fun h => h) ?_
          have k5 : sh (n_st ν) (fo (n_st ν) p v) = true := b2_1.mp (by omega)
          refine dt_i ?_ rfl
          unfold oc
          rw [if_pos h_pg, if_neg (fun h => h.2 k5), if_neg (by omega), if_neg (by omega), if_pos (b2_1.mp (by omega))]
      · skip
        refine g_iconst (pc := 53) dX4_outcome_53 ?_
        refine g_goto (tgt := 73) (pc := 54) dX4_outcome_54 (by decide) ?_
        refine g_iret (pc := 73) rfl dX4_outcome_73 (fun h => h) ?_
        have k5 : sh (n_st ν) (fo (n_st ν) p v) = true := b2_1.mp (by omega)
        refine dt_i ?_ rfl
        unfold oc
        rw [if_pos h_pg, if_neg (fun h => h.2 k5), if_pos (by omega)]
    · skip
      refine g_iconst (pc := 43) dX4_outcome_43 ?_
      refine g_iret (pc := 44) rfl dX4_outcome_44 (fun h => h) ?_
      refine dt_i ?_ rfl
      unfold oc
      rw [if_pos h_pg, if_pos ⟨by omega, b2_0.mp (by omega)⟩]
  · skip
    refine g_aload_n (i := 0) (pc := 12) dX4_outcome_12 rfl rfl ?_
    refine g_iload_n (i := 1) (pc := 13) dX4_outcome_13 rfl rfl ?_
    refine g_iload_n (i := 2) (pc := 14) dX4_outcome_14 rfl rfl ?_
    refine g_v2 (pc := 15) okV_X4_isEagerFault rfl l_X4_77 dX4_outcome_15 (c_79) hc_4 (by decide) (by decide) (Nat.le_of_ble_eq_true rfl) (t_X4_isEagerFault hi (by omega) (by omega)) rfl ?_
    simp only [Option.toList, List.cons_append, List.nil_append]
    have bb := b2_rng (eaf (n_st ν) (p) (v))
    refine g_z_ne (tgt := 29) (pc := 18) dX4_outcome_18 (by omega) (by decide) (fun c18 => ?_) (fun c18 => ?_)
    · skip
      refine g_iconst (pc := 29) dX4_outcome_29 ?_
      refine g_goto (tgt := 34) (pc := 30) dX4_outcome_30 (by decide) ?_
      refine g_iret (pc := 34) rfl dX4_outcome_34 (fun h => h) ?_
      have k4 : nff (n_st ν) ≠ 0 := by
        have q : eaf (n_st ν) p v = true := b2_1.mp (by omega)
        have q2 := of_decide_eq_true q
        exact k2 q2.2.2
      refine dt_i ?_ rfl
      unfold oc
      rw [if_pos h_pg, if_neg (fun h => h.1 (by omega)), if_neg k4, if_pos (by omega)]
    · skip
      refine g_aload_n (i := 0) (pc := 21) dX4_outcome_21 rfl rfl ?_
      refine g_v0 (pc := 22) okV_X4_singleFrame rfl l_X4_80 dX4_outcome_22 (c_79) hc_4 (by decide) (by decide) (Nat.le_of_ble_eq_true rfl) (t_X4_singleFrame hi) rfl ?_
      simp only [Option.toList, List.cons_append, List.nil_append]
      have bb := lsf_rng (n_st ν)
      refine g_iconst (pc := 25) dX4_outcome_25 ?_
      refine g_c_eq (tgt := 33) (pc := 26) dX4_outcome_26 (by omega) (by decide) (fun c26 => ?_) (fun c26 => ?_)
      · skip
        refine g_iconst (pc := 33) dX4_outcome_33 ?_
        refine g_iret (pc := 34) rfl dX4_outcome_34 (fun h => h) ?_
        refine dt_i ?_ rfl
        unfold oc
        rw [if_pos h_pg, if_neg (fun h => h.1 (by omega)), if_pos (by omega)]
      · skip
        refine g_iconst (pc := 29) dX4_outcome_29 ?_
        refine g_goto (tgt := 34) (pc := 30) dX4_outcome_30 (by decide) ?_
        refine g_iret (pc := 34) rfl dX4_outcome_34 (fun h => h) ?_
        refine dt_i ?_ rfl
        unfold oc
        rw [if_pos h_pg, if_neg (fun h => h.1 (by omega)), if_neg (by omega), if_pos (by omega)]
set_option maxRecDepth 20000 in
set_option maxHeartbeats 4000000 in
theorem t_X4_freeProcess {κ : KT} {ν : NT} {o : Nat → Int} {al : Bool} (hi : Inv (n_st ν)) : GM M_X4_freeProcess al [vR 79] (cW κ (dE ν) o) 0 0 (dt (some (vI (lup (n_st ν)))) (cW κ (dE (ν)) o)) := by
  show G _ none _ _ 0 [some (vR 79), none, none] [] _ _ _ _
  refine g_iconst (pc := 0) dX4_freeProcess_0 ?_
  refine g_istore_n (i := 1) (pc := 1) dX4_freeProcess_1 rfl (by decide) rfl ?_
  simp only [List.set_cons_succ, List.set_cons_zero]
  refine g_iconst (pc := 2) dX4_freeProcess_2 ?_
  refine g_istore_n (i := 2) (pc := 3) dX4_freeProcess_3 rfl (by decide) rfl ?_
  simp only [List.set_cons_succ, List.set_cons_zero]
  refine G.eqL (L' := [some (vR 79), some (vI (fx (fun p => !(hasP (n_st ν) p)) 4 4)), some (vI (((4 : Nat) : Int) - 1))]) (by simp only [fx_n]; rfl) ?_
  refine lp_dn (P := fun k => G M_X4_freeProcess none al al 4 [some (vR 79), some (vI (fx (fun p => !(hasP (n_st ν) p)) 4 k)), some (vI ((k : Int) - 1))] [] (cW κ (dE ν) o) 0 0 (dt (some (vI (lup (n_st ν)))) (cW κ (dE (ν)) o))) 4 ?_ ?_
  · show G _ _ _ _ _ _ _ _ _ _ _
    have yf := fx_rng (fun p => !(hasP (n_st ν) p)) 4 0
    
    refine g_iload_n (i := 2) (pc := 4) dX4_freeProcess_4 rfl rfl ?_
    refine g_z_lt (tgt := 31) (pc := 5) dX4_freeProcess_5 (by omega) (by decide) (fun c5 => ?_) (fun c5 => absurd c5 (by omega))
    refine g_iload_n (i := 1) (pc := 31) dX4_freeProcess_31 rfl rfl ?_
    refine g_iret (pc := 32) rfl dX4_freeProcess_32 (fun h => h) ?_
    exact dt_i (fx_0 _ _) rfl
  · intro k hk ih
    have yf := fx_rng (fun p => !(hasP (n_st ν) p)) 4 (k + 1)
    
    refine G.eqL (L' := [some (vR 79), some (vI (fx (fun p => !(hasP (n_st ν) p)) 4 (k + 1))), some (vI (k : Int))]) (congrArg (fun z => [some (vR 79), some (vI (fx (fun p => !(hasP (n_st ν) p)) 4 (k + 1))), some (vI z)]) (show ((k + 1 : Nat) : Int) - 1 = (k : Int) by omega)) ?_
    show G _ _ _ _ _ _ _ _ _ _ _
    refine g_iload_n (i := 2) (pc := 4) dX4_freeProcess_4 rfl rfl ?_
    refine g_z_lt (tgt := 31) (pc := 5) dX4_freeProcess_5 (by omega) (by decide) (fun c5 => absurd c5 (by omega)) (fun c5 => ?_)
    refine g_aload_n (i := 0) (pc := 8) dX4_freeProcess_8 rfl rfl ?_
    refine g_getf (pc := 9) f_X4_7 dX4_freeProcess_9 (c_79) rfl ?_
    refine g_iconst (pc := 12) dX4_freeProcess_12 ?_
    refine g_iload_n (i := 2) (pc := 13) dX4_freeProcess_13 rfl rfl ?_
    refine g_iadd (pc := 14) dX4_freeProcess_14 ?_
    refine g_iald (pc := 15) dX4_freeProcess_15 (c_80) (by omega) ?_
    refine G.eqS (congrArg (fun z => vI z) ((r_ex (by omega)).trans (congrArg (s_ex (n_st ν)) (show (0 + (k : Int)).toNat = k by omega)))) ?_
    have z9 := hi.2.2.2.2.2.2.1 k
    have z8 : hasP (n_st ν) (k : Int) = true ↔ s_ex (n_st ν) k = 1 := by
      unfold hasP
      rw [decide_eq_true_eq, Int.toNat_natCast]
      omega
    refine g_z_ne (tgt := 23) (pc := 16) dX4_freeProcess_16 (by omega) (by decide) (fun c16 => ?_) (fun c16 => ?_)
    · skip
      refine g_iload_n (i := 1) (pc := 23) dX4_freeProcess_23 rfl rfl ?_
      refine g_istore_n (i := 1) (pc := 24) dX4_freeProcess_24 rfl (by decide) rfl ?_
      simp only [List.set_cons_succ, List.set_cons_zero]
      refine g_iinc (pc := 25) dX4_freeProcess_25 rfl (by decide) rfl ?_
      simp only [List.set_cons_succ, List.set_cons_zero]
      refine g_goto (tgt := 4) (pc := 28) dX4_freeProcess_28 (by decide) ?_
      refine G.eqL (congrArg (fun z => [some (vR 79), some (vI (z)), some (vI ((k : Int) + (-1)))]) ?_) ih
      rw [fx_s hk, if_neg (by rw [Bool.not_eq_true', Bool.eq_false_iff, ne_eq, z8]; omega)]
    · skip
      refine g_iload_n (i := 2) (pc := 19) dX4_freeProcess_19 rfl rfl ?_
      refine g_goto (tgt := 24) (pc := 20) dX4_freeProcess_20 (by decide) ?_
      refine g_istore_n (i := 1) (pc := 24) dX4_freeProcess_24 rfl (by decide) rfl ?_
      simp only [List.set_cons_succ, List.set_cons_zero]
      refine g_iinc (pc := 25) dX4_freeProcess_25 rfl (by decide) rfl ?_
      simp only [List.set_cons_succ, List.set_cons_zero]
      refine g_goto (tgt := 4) (pc := 28) dX4_freeProcess_28 (by decide) ?_
      refine G.eqL (congrArg (fun z => [some (vR 79), some (vI (z)), some (vI ((k : Int) + (-1)))]) ?_) ih
      rw [fx_s hk, if_pos (by rw [Bool.not_eq_true', Bool.eq_false_iff, ne_eq, z8]; omega)]
set_option maxRecDepth 20000 in
set_option maxHeartbeats 4000000 in
theorem t_X4_whyNotForked {κ : KT} {ν : NT} {o : Nat → Int} {al : Bool} (hi : Inv (n_st ν)) {p : Int} (h_p : -2147483648 ≤ p ∧ p < 2147483648) : GM M_X4_whyNotForked al [vR 79, vI p] (cW κ (dE ν) o) 0 0 (dt (some (vI (xc_fk (n_st ν) p))) (cW κ (dE (ν)) o)) := by
  show G _ none _ _ 0 [some (vR 79), some (vI p)] [] _ _ _ _
  refine g_aload_n (i := 0) (pc := 0) dX4_whyNotForked_0 rfl rfl ?_
  refine g_iload_n (i := 1) (pc := 1) dX4_whyNotForked_1 rfl rfl ?_
  refine g_v1 (pc := 2) okV_X4_isProcess rfl l_X4_42 dX4_whyNotForked_2 (c_79) hc_4 (by decide) (by decide) (Nat.le_of_ble_eq_true rfl) (t_X4_isProcess hi (by omega)) rfl ?_
  simp only [Option.toList, List.cons_append, List.nil_append]
  have bb := b2_rng (hasP (n_st ν) (p))
  refine g_z_ne (tgt := 12) (pc := 5) dX4_whyNotForked_5 (by omega) (by decide) (fun c5 => ?_) (fun c5 => ?_)
  · skip
    refine g_aload_n (i := 0) (pc := 12) dX4_whyNotForked_12 rfl rfl ?_
    refine g_v0 (pc := 13) okV_X4_freeProcess rfl l_X4_97 dX4_whyNotForked_13 (c_79) hc_4 (by decide) (by decide) (Nat.le_of_ble_eq_true rfl) (t_X4_freeProcess hi) rfl ?_
    simp only [Option.toList, List.cons_append, List.nil_append]
    have bb := lup_rng (n_st ν)
    refine g_iconst (pc := 16) dX4_whyNotForked_16 ?_
    refine g_c_ne (tgt := 24) (pc := 17) dX4_whyNotForked_17 (by omega) (by decide) (fun c17 => ?_) (fun c17 => ?_)
    · skip
      refine g_iconst (pc := 24) dX4_whyNotForked_24 ?_
      refine g_iret (pc := 25) rfl dX4_whyNotForked_25 (fun h => h) ?_
      refine dt_i ?_ rfl
      unfold xc_fk
      first
      | (rw [if_neg (b2_0.mp (by omega))]; done)
      | (rw [if_pos (b2_1.mp (by omega)), if_pos (by omega)]; done)
      | rw [if_pos (b2_1.mp (by omega)), if_neg (by omega)]
    · skip
      refine g_iconst (pc := 20) dX4_whyNotForked_20 ?_
      refine g_goto (tgt := 25) (pc := 21) dX4_whyNotForked_21 (by decide) ?_
      refine g_iret (pc := 25) rfl dX4_whyNotForked_25 (fun h => h) ?_
      refine dt_i ?_ rfl
      unfold xc_fk
      first
      | (rw [if_neg (b2_0.mp (by omega))]; done)
      | (rw [if_pos (b2_1.mp (by omega)), if_pos (by omega)]; done)
      | rw [if_pos (b2_1.mp (by omega)), if_neg (by omega)]
  · skip
    refine g_iconst (pc := 8) dX4_whyNotForked_8 ?_
    refine g_goto (tgt := 25) (pc := 9) dX4_whyNotForked_9 (by decide) ?_
    refine g_iret (pc := 25) rfl dX4_whyNotForked_25 (fun h => h) ?_
    refine dt_i ?_ rfl
    unfold xc_fk
    first
    | (rw [if_neg (b2_0.mp (by omega))]; done)
    | (rw [if_pos (b2_1.mp (by omega)), if_pos (by omega)]; done)
    | rw [if_pos (b2_1.mp (by omega)), if_neg (by omega)]
set_option maxRecDepth 20000 in
set_option maxHeartbeats 4000000 in
theorem t_X4_processMany {κ : KT} {ν : NT} {o : Nat → Int} {al : Bool} (hi : Inv (n_st ν)) : GM M_X4_processMany al [vR 79] (cW κ (dE ν) o) 0 0 (dt (some (vI (nex (n_st ν)))) (cW κ (dE (ν)) o)) := by
  show G _ none _ _ 0 [some (vR 79)] [] _ _ _ _
  refine g_aload_n (i := 0) (pc := 0) dX4_processMany_0 rfl rfl ?_
  refine g_getf (pc := 1) f_X4_7 dX4_processMany_1 (c_79) rfl ?_
  refine g_iconst (pc := 4) dX4_processMany_4 ?_
  refine g_iald (pc := 5) dX4_processMany_5 (c_80) (by omega) ?_
  refine g_aload_n (i := 0) (pc := 6) dX4_processMany_6 rfl rfl ?_
  refine g_getf (pc := 7) f_X4_7 dX4_processMany_7 (c_79) rfl ?_
  refine g_iconst (pc := 10) dX4_processMany_10 ?_
  refine g_iald (pc := 11) dX4_processMany_11 (c_80) (by omega) ?_
  refine g_iadd (pc := 12) dX4_processMany_12 ?_
  refine g_aload_n (i := 0) (pc := 13) dX4_processMany_13 rfl rfl ?_
  refine g_getf (pc := 14) f_X4_7 dX4_processMany_14 (c_79) rfl ?_
  refine g_iconst (pc := 17) dX4_processMany_17 ?_
  refine g_iald (pc := 18) dX4_processMany_18 (c_80) (by omega) ?_
  refine g_iadd (pc := 19) dX4_processMany_19 ?_
  refine g_aload_n (i := 0) (pc := 20) dX4_processMany_20 rfl rfl ?_
  refine g_getf (pc := 21) f_X4_7 dX4_processMany_21 (c_79) rfl ?_
  refine g_iconst (pc := 24) dX4_processMany_24 ?_
  refine g_iald (pc := 25) dX4_processMany_25 (c_80) (by omega) ?_
  refine g_iadd (pc := 26) dX4_processMany_26 ?_
  refine g_iret (pc := 27) rfl dX4_processMany_27 (fun h => h) ?_
  refine dt_i ?_ rfl
  have z0 := hi.2.2.2.2.2.2.1 0
  have z1 := hi.2.2.2.2.2.2.1 1
  have z2 := hi.2.2.2.2.2.2.1 2
  have z3 := hi.2.2.2.2.2.2.1 3
  show s_ex (n_st ν) 0 + s_ex (n_st ν) 1 + s_ex (n_st ν) 2 + s_ex (n_st ν) 3 = _
  unfold nex
  simp only [ct, decide_eq_true_eq]
  (repeat' split) <;> omega
set_option maxRecDepth 20000 in
set_option maxHeartbeats 4000000 in
theorem t_X4_whyNotEnded {κ : KT} {ν : NT} {o : Nat → Int} {al : Bool} (hi : Inv (n_st ν)) {p : Int} (h_p : -2147483648 ≤ p ∧ p < 2147483648) : GM M_X4_whyNotEnded al [vR 79, vI p] (cW κ (dE ν) o) 0 0 (dt (some (vI (xc_ex (n_st ν) p))) (cW κ (dE (ν)) o)) := by
  show G _ none _ _ 0 [some (vR 79), some (vI p)] [] _ _ _ _
  refine g_aload_n (i := 0) (pc := 0) dX4_whyNotEnded_0 rfl rfl ?_
  refine g_iload_n (i := 1) (pc := 1) dX4_whyNotEnded_1 rfl rfl ?_
  refine g_v1 (pc := 2) okV_X4_isProcess rfl l_X4_42 dX4_whyNotEnded_2 (c_79) hc_4 (by decide) (by decide) (Nat.le_of_ble_eq_true rfl) (t_X4_isProcess hi (by omega)) rfl ?_
  simp only [Option.toList, List.cons_append, List.nil_append]
  have bb := b2_rng (hasP (n_st ν) (p))
  refine g_z_ne (tgt := 12) (pc := 5) dX4_whyNotEnded_5 (by omega) (by decide) (fun c5 => ?_) (fun c5 => ?_)
  · skip
    refine g_aload_n (i := 0) (pc := 12) dX4_whyNotEnded_12 rfl rfl ?_
    refine g_v0 (pc := 13) okV_X4_processMany rfl l_X4_100 dX4_whyNotEnded_13 (c_79) hc_4 (by decide) (by decide) (Nat.le_of_ble_eq_true rfl) (t_X4_processMany hi) rfl ?_
    simp only [Option.toList, List.cons_append, List.nil_append]
    have bb := nex_rng (n_st ν)
    refine g_iconst (pc := 16) dX4_whyNotEnded_16 ?_
    refine g_c_ne (tgt := 24) (pc := 17) dX4_whyNotEnded_17 (by omega) (by decide) (fun c17 => ?_) (fun c17 => ?_)
    · skip
      refine g_iconst (pc := 24) dX4_whyNotEnded_24 ?_
      refine g_iret (pc := 25) rfl dX4_whyNotEnded_25 (fun h => h) ?_
      refine dt_i ?_ rfl
      have hp := b2_1.mp (show b2 (hasP (n_st ν) p) = 1 by omega)
      have hn := nex_p hp
      unfold xc_ex
      rw [if_pos hp, if_pos (by rw [canE, Bool.and_eq_true, decide_eq_true_eq]; exact ⟨hp, by omega⟩)]
    · skip
      refine g_iconst (pc := 20) dX4_whyNotEnded_20 ?_
      refine g_goto (tgt := 25) (pc := 21) dX4_whyNotEnded_21 (by decide) ?_
      refine g_iret (pc := 25) rfl dX4_whyNotEnded_25 (fun h => h) ?_
      refine dt_i ?_ rfl
      have hp := b2_1.mp (show b2 (hasP (n_st ν) p) = 1 by omega)
      unfold xc_ex
      rw [if_pos hp, if_neg (by rw [canE, Bool.and_eq_true, decide_eq_true_eq]; rintro ⟨q1, q2⟩; omega)]
  · skip
    refine g_iconst (pc := 8) dX4_whyNotEnded_8 ?_
    refine g_goto (tgt := 25) (pc := 9) dX4_whyNotEnded_9 (by decide) ?_
    refine g_iret (pc := 25) rfl dX4_whyNotEnded_25 (fun h => h) ?_
    refine dt_i ?_ rfl
    unfold xc_ex
    rw [if_neg (b2_0.mp (by omega))]
set_option maxRecDepth 20000 in
set_option maxHeartbeats 4000000 in
theorem t_X4_isInPlace {κ : KT} {ν : NT} {o : Nat → Int} {al : Bool} (hi : Inv (n_st ν)) {p g : Int} (h_p : 0 ≤ p ∧ p < 4) (h_g : 0 ≤ g ∧ g < 4) : GM M_X4_isInPlace al [vR 79, vI p, vI g] (cW κ (dE ν) o) 0 0 (dt (some (vI (b2 (ip (n_st ν) p g)))) (cW κ (dE (ν)) o)) := by
  show G _ none _ _ 0 [some (vR 79), some (vI p), some (vI g), none, none, none] [] _ _ _ _
  refine g_aload_n (i := 0) (pc := 0) dX4_isInPlace_0 rfl rfl ?_
  refine g_iload_n (i := 1) (pc := 1) dX4_isInPlace_1 rfl rfl ?_
  refine g_iconst (pc := 2) dX4_isInPlace_2 ?_
  refine g_iload_n (i := 2) (pc := 3) dX4_isInPlace_3 rfl rfl ?_
  refine g_imul (pc := 4) dX4_isInPlace_4 ?_
  refine g_v2 (pc := 5) okV_X4_frameOf rfl l_X4_53 dX4_isInPlace_5 (c_79) hc_4 (by decide) (by decide) (Nat.le_of_ble_eq_true rfl) (t_X4_frameOf hi (by omega) (by omega)) rfl ?_
  simp only [Option.toList, List.cons_append, List.nil_append]
  have bb := fo_rng (σ := (n_st ν)) hi (p) ((4 * g))
  refine g_istore_n (i := 3) (pc := 8) dX4_isInPlace_8 rfl (by decide) rfl ?_
  simp only [List.set_cons_succ, List.set_cons_zero]
  refine g_iload_n (i := 3) (pc := 9) dX4_isInPlace_9 rfl rfl ?_
  refine g_iconst (pc := 10) dX4_isInPlace_10 ?_
  refine g_c_eq (tgt := 24) (pc := 11) dX4_isInPlace_11 (by omega) (by decide) (fun c11 => ?_) (fun c11 => ?_)
  · skip
    refine g_iconst (pc := 24) dX4_isInPlace_24 ?_
    refine g_istore (pc := 25) dX4_isInPlace_25 (by decide) rfl ?_
    simp only [List.set_cons_succ, List.set_cons_zero]
    refine g_iconst (pc := 27) dX4_isInPlace_27 ?_
    refine g_istore (pc := 28) dX4_isInPlace_28 (by decide) rfl ?_
    simp only [List.set_cons_succ, List.set_cons_zero]
    refine G.eqL (L' := [some (vR 79), some (vI p), some (vI g), some (vI (fo (n_st ν) p (4 * g))), some (vI (b2 (decide (fo (n_st ν) p (4 * g) ≠ -1 ∧ (fo (n_st ν) p (4 * g)).tmod 4 = 0 ∧ ∀ i : Nat, i < 1 → 1 ≤ i → fo (n_st ν) p (4 * g + i) = fo (n_st ν) p (4 * g) + i)))), some (vI ((1 : Nat) : Int))]) (congrArg (fun z => [some (vR 79), some (vI p), some (vI g), some (vI (fo (n_st ν) p (4 * g))), some (vI (z)), some (vI ((1 : Nat) : Int))]) ?_) ?_
    · first
      | (exact (b2_t (decide_eq_true ⟨by omega, by omega, fun i hi9 h1 => absurd h1 (by omega)⟩)).symm)
      | (exact (b2_f (fun q => by have q2 := of_decide_eq_true q; omega)).symm)
    refine lp_up (P := fun k => 1 ≤ k → G M_X4_isInPlace none al al 30 [some (vR 79), some (vI p), some (vI g), some (vI (fo (n_st ν) p (4 * g))), some (vI (b2 (decide (fo (n_st ν) p (4 * g) ≠ -1 ∧ (fo (n_st ν) p (4 * g)).tmod 4 = 0 ∧ ∀ i : Nat, i < k → 1 ≤ i → fo (n_st ν) p (4 * g + i) = fo (n_st ν) p (4 * g) + i)))), some (vI k)] [] (cW κ (dE ν) o) 0 0 (dt (some (vI (b2 (ip (n_st ν) p g)))) (cW κ (dE (ν)) o))) 4 ?_ ?_ 1 (by decide) (Nat.le_refl 1)
    · intro _
      show G _ _ _ _ _ _ _ _ _ _ _
      have y9 := b2_rng (decide (fo (n_st ν) p (4 * g) ≠ -1 ∧ (fo (n_st ν) p (4 * g)).tmod 4 = 0 ∧ ∀ i : Nat, i < 4 → 1 ≤ i → fo (n_st ν) p (4 * g + i) = fo (n_st ν) p (4 * g) + i))
      refine g_iload (pc := 30) dX4_isInPlace_30 rfl ?_
      refine g_iconst (pc := 32) dX4_isInPlace_32 ?_
      refine g_c_ge (tgt := 72) (pc := 33) dX4_isInPlace_33 (by omega) (by decide) (fun c33 => ?_) (fun c33 => absurd c33 (by omega))
      refine g_iload (pc := 72) dX4_isInPlace_72 rfl ?_
      refine g_zret (pc := 74) rfl dX4_isInPlace_74 (by omega) (fun h => h) ?_
      exact dt_i rfl rfl
    · intro k hk ih h1k
      have y9 := b2_rng (decide (fo (n_st ν) p (4 * g) ≠ -1 ∧ (fo (n_st ν) p (4 * g)).tmod 4 = 0 ∧ ∀ i : Nat, i < k → 1 ≤ i → fo (n_st ν) p (4 * g + i) = fo (n_st ν) p (4 * g) + i))
      have y8 := b2_dec (p := (fo (n_st ν) p (4 * g) ≠ -1 ∧ (fo (n_st ν) p (4 * g)).tmod 4 = 0 ∧ ∀ i : Nat, i < k → 1 ≤ i → fo (n_st ν) p (4 * g + i) = fo (n_st ν) p (4 * g) + i))
      show G _ _ _ _ _ _ _ _ _ _ _
      refine g_iload (pc := 30) dX4_isInPlace_30 rfl ?_
      refine g_iconst (pc := 32) dX4_isInPlace_32 ?_
      refine g_c_ge (tgt := 72) (pc := 33) dX4_isInPlace_33 (by omega) (by decide) (fun c33 => absurd c33 (by omega)) (fun c33 => ?_)
      refine g_iload (pc := 36) dX4_isInPlace_36 rfl ?_
      refine g_z_eq (tgt := 63) (pc := 38) dX4_isInPlace_38 (by omega) (by decide) (fun c38 => ?_) (fun c38 => ?_)
      · skip
        refine g_iconst (pc := 63) dX4_isInPlace_63 ?_
        refine g_istore (pc := 64) dX4_isInPlace_64 (by decide) rfl ?_
        simp only [List.set_cons_succ, List.set_cons_zero]
        refine g_iinc (pc := 66) dX4_isInPlace_66 rfl (by decide) rfl ?_
        simp only [List.set_cons_succ, List.set_cons_zero]
        refine g_goto (tgt := 30) (pc := 69) dX4_isInPlace_69 (by decide) ?_
        refine G.eqL (congrArg (fun z => [some (vR 79), some (vI p), some (vI g), some (vI (fo (n_st ν) p (4 * g))), some (vI z), some (vI ((k : Int) + 1))]) ?_) (ih (by omega))
        refine (b2_f (fun q => ?_)).symm
        have q2 := of_decide_eq_true q
        have q3 : b2 (decide (fo (n_st ν) p (4 * g) ≠ -1 ∧ (fo (n_st ν) p (4 * g)).tmod 4 = 0 ∧ ∀ i : Nat, i < k → 1 ≤ i → fo (n_st ν) p (4 * g + i) = fo (n_st ν) p (4 * g) + i)) = 1 := b2_dec.mpr ⟨q2.1, q2.2.1, fun i hi9 h1 => q2.2.2 i (by omega) h1⟩
        omega
      · skip
        refine g_aload_n (i := 0) (pc := 41) dX4_isInPlace_41 rfl rfl ?_
        refine g_iload_n (i := 1) (pc := 42) dX4_isInPlace_42 rfl rfl ?_
        refine g_iconst (pc := 43) dX4_isInPlace_43 ?_
        refine g_iload_n (i := 2) (pc := 44) dX4_isInPlace_44 rfl rfl ?_
        refine g_imul (pc := 45) dX4_isInPlace_45 ?_
        refine g_iload (pc := 46) dX4_isInPlace_46 rfl ?_
        refine g_iadd (pc := 48) dX4_isInPlace_48 ?_
        refine g_v2 (pc := 49) okV_X4_frameOf rfl l_X4_53 dX4_isInPlace_49 (c_79) hc_4 (by decide) (by decide) (Nat.le_of_ble_eq_true rfl) (t_X4_frameOf hi (by omega) (by omega)) rfl ?_
        simp only [Option.toList, List.cons_append, List.nil_append]
        have bb := fo_rng (σ := (n_st ν)) hi (p) (((4 * g) + (k : Int)))
        refine g_iload_n (i := 3) (pc := 52) dX4_isInPlace_52 rfl rfl ?_
        refine g_iload (pc := 53) dX4_isInPlace_53 rfl ?_
        refine g_iadd (pc := 55) dX4_isInPlace_55 ?_
        refine g_c_ne (tgt := 63) (pc := 56) dX4_isInPlace_56 (by omega) (by decide) (fun c56 => ?_) (fun c56 => ?_)
        · skip
          refine g_iconst (pc := 63) dX4_isInPlace_63 ?_
          refine g_istore (pc := 64) dX4_isInPlace_64 (by decide) rfl ?_
          simp only [List.set_cons_succ, List.set_cons_zero]
          refine g_iinc (pc := 66) dX4_isInPlace_66 rfl (by decide) rfl ?_
          simp only [List.set_cons_succ, List.set_cons_zero]
          refine g_goto (tgt := 30) (pc := 69) dX4_isInPlace_69 (by decide) ?_
          refine G.eqL (congrArg (fun z => [some (vR 79), some (vI p), some (vI g), some (vI (fo (n_st ν) p (4 * g))), some (vI z), some (vI ((k : Int) + 1))]) ?_) (ih (by omega))
          refine (b2_f (fun q => ?_)).symm
          have q2 := of_decide_eq_true q
          have q3 := q2.2.2 k (by omega) h1k
          omega
        · skip
          refine g_iconst (pc := 59) dX4_isInPlace_59 ?_
          refine g_goto (tgt := 64) (pc := 60) dX4_isInPlace_60 (by decide) ?_
          refine g_istore (pc := 64) dX4_isInPlace_64 (by decide) rfl ?_
          simp only [List.set_cons_succ, List.set_cons_zero]
          refine g_iinc (pc := 66) dX4_isInPlace_66 rfl (by decide) rfl ?_
          simp only [List.set_cons_succ, List.set_cons_zero]
          refine g_goto (tgt := 30) (pc := 69) dX4_isInPlace_69 (by decide) ?_
          refine G.eqL (congrArg (fun z => [some (vR 79), some (vI p), some (vI g), some (vI (fo (n_st ν) p (4 * g))), some (vI z), some (vI ((k : Int) + 1))]) ?_) (ih (by omega))
          have q2 := y8.mp (by omega)
          refine (b2_t (decide_eq_true ⟨q2.1, q2.2.1, fun i hi9 h1 => ?_⟩)).symm
          rcases Nat.lt_or_ge i k with q | q
          · exact q2.2.2 i q h1
          · rw [show i = k by omega]
            omega
  · skip
    refine g_iload_n (i := 3) (pc := 14) dX4_isInPlace_14 rfl rfl ?_
    refine g_iconst (pc := 15) dX4_isInPlace_15 ?_
    refine g_irem (pc := 16) dX4_isInPlace_16 (by omega) (by omega) ?_
    have d9 := Int.tmod_eq_emod_of_nonneg (a := fo (n_st ν) p (4 * g)) (b := 4) (by omega)
    refine g_z_ne (tgt := 24) (pc := 17) dX4_isInPlace_17 (by omega) (by decide) (fun c17 => ?_) (fun c17 => ?_)
    · skip
      refine g_iconst (pc := 24) dX4_isInPlace_24 ?_
      refine g_istore (pc := 25) dX4_isInPlace_25 (by decide) rfl ?_
      simp only [List.set_cons_succ, List.set_cons_zero]
      refine g_iconst (pc := 27) dX4_isInPlace_27 ?_
      refine g_istore (pc := 28) dX4_isInPlace_28 (by decide) rfl ?_
      simp only [List.set_cons_succ, List.set_cons_zero]
      refine G.eqL (L' := [some (vR 79), some (vI p), some (vI g), some (vI (fo (n_st ν) p (4 * g))), some (vI (b2 (decide (fo (n_st ν) p (4 * g) ≠ -1 ∧ (fo (n_st ν) p (4 * g)).tmod 4 = 0 ∧ ∀ i : Nat, i < 1 → 1 ≤ i → fo (n_st ν) p (4 * g + i) = fo (n_st ν) p (4 * g) + i)))), some (vI ((1 : Nat) : Int))]) (congrArg (fun z => [some (vR 79), some (vI p), some (vI g), some (vI (fo (n_st ν) p (4 * g))), some (vI (z)), some (vI ((1 : Nat) : Int))]) ?_) ?_
      · first
        | (exact (b2_t (decide_eq_true ⟨by omega, by omega, fun i hi9 h1 => absurd h1 (by omega)⟩)).symm)
        | (exact (b2_f (fun q => by have q2 := of_decide_eq_true q; omega)).symm)
      refine lp_up (P := fun k => 1 ≤ k → G M_X4_isInPlace none al al 30 [some (vR 79), some (vI p), some (vI g), some (vI (fo (n_st ν) p (4 * g))), some (vI (b2 (decide (fo (n_st ν) p (4 * g) ≠ -1 ∧ (fo (n_st ν) p (4 * g)).tmod 4 = 0 ∧ ∀ i : Nat, i < k → 1 ≤ i → fo (n_st ν) p (4 * g + i) = fo (n_st ν) p (4 * g) + i)))), some (vI k)] [] (cW κ (dE ν) o) 0 0 (dt (some (vI (b2 (ip (n_st ν) p g)))) (cW κ (dE (ν)) o))) 4 ?_ ?_ 1 (by decide) (Nat.le_refl 1)
      · intro _
        show G _ _ _ _ _ _ _ _ _ _ _
        have y9 := b2_rng (decide (fo (n_st ν) p (4 * g) ≠ -1 ∧ (fo (n_st ν) p (4 * g)).tmod 4 = 0 ∧ ∀ i : Nat, i < 4 → 1 ≤ i → fo (n_st ν) p (4 * g + i) = fo (n_st ν) p (4 * g) + i))
        refine g_iload (pc := 30) dX4_isInPlace_30 rfl ?_
        refine g_iconst (pc := 32) dX4_isInPlace_32 ?_
        refine g_c_ge (tgt := 72) (pc := 33) dX4_isInPlace_33 (by omega) (by decide) (fun c33 => ?_) (fun c33 => absurd c33 (by omega))
        refine g_iload (pc := 72) dX4_isInPlace_72 rfl ?_
        refine g_zret (pc := 74) rfl dX4_isInPlace_74 (by omega) (fun h => h) ?_
        exact dt_i rfl rfl
      · intro k hk ih h1k
        have y9 := b2_rng (decide (fo (n_st ν) p (4 * g) ≠ -1 ∧ (fo (n_st ν) p (4 * g)).tmod 4 = 0 ∧ ∀ i : Nat, i < k → 1 ≤ i → fo (n_st ν) p (4 * g + i) = fo (n_st ν) p (4 * g) + i))
        have y8 := b2_dec (p := (fo (n_st ν) p (4 * g) ≠ -1 ∧ (fo (n_st ν) p (4 * g)).tmod 4 = 0 ∧ ∀ i : Nat, i < k → 1 ≤ i → fo (n_st ν) p (4 * g + i) = fo (n_st ν) p (4 * g) + i))
        show G _ _ _ _ _ _ _ _ _ _ _
        refine g_iload (pc := 30) dX4_isInPlace_30 rfl ?_
        refine g_iconst (pc := 32) dX4_isInPlace_32 ?_
        refine g_c_ge (tgt := 72) (pc := 33) dX4_isInPlace_33 (by omega) (by decide) (fun c33 => absurd c33 (by omega)) (fun c33 => ?_)
        refine g_iload (pc := 36) dX4_isInPlace_36 rfl ?_
        refine g_z_eq (tgt := 63) (pc := 38) dX4_isInPlace_38 (by omega) (by decide) (fun c38 => ?_) (fun c38 => ?_)
        · skip
          refine g_iconst (pc := 63) dX4_isInPlace_63 ?_
          refine g_istore (pc := 64) dX4_isInPlace_64 (by decide) rfl ?_
          simp only [List.set_cons_succ, List.set_cons_zero]
          refine g_iinc (pc := 66) dX4_isInPlace_66 rfl (by decide) rfl ?_
          simp only [List.set_cons_succ, List.set_cons_zero]
          refine g_goto (tgt := 30) (pc := 69) dX4_isInPlace_69 (by decide) ?_
          refine G.eqL (congrArg (fun z => [some (vR 79), some (vI p), some (vI g), some (vI (fo (n_st ν) p (4 * g))), some (vI z), some (vI ((k : Int) + 1))]) ?_) (ih (by omega))
          refine (b2_f (fun q => ?_)).symm
          have q2 := of_decide_eq_true q
          have q3 : b2 (decide (fo (n_st ν) p (4 * g) ≠ -1 ∧ (fo (n_st ν) p (4 * g)).tmod 4 = 0 ∧ ∀ i : Nat, i < k → 1 ≤ i → fo (n_st ν) p (4 * g + i) = fo (n_st ν) p (4 * g) + i)) = 1 := b2_dec.mpr ⟨q2.1, q2.2.1, fun i hi9 h1 => q2.2.2 i (by omega) h1⟩
          omega
        · skip
          refine g_aload_n (i := 0) (pc := 41) dX4_isInPlace_41 rfl rfl ?_
          refine g_iload_n (i := 1) (pc := 42) dX4_isInPlace_42 rfl rfl ?_
          refine g_iconst (pc := 43) dX4_isInPlace_43 ?_
          refine g_iload_n (i := 2) (pc := 44) dX4_isInPlace_44 rfl rfl ?_
          refine g_imul (pc := 45) dX4_isInPlace_45 ?_
          refine g_iload (pc := 46) dX4_isInPlace_46 rfl ?_
          refine g_iadd (pc := 48) dX4_isInPlace_48 ?_
          refine g_v2 (pc := 49) okV_X4_frameOf rfl l_X4_53 dX4_isInPlace_49 (c_79) hc_4 (by decide) (by decide) (Nat.le_of_ble_eq_true rfl) (t_X4_frameOf hi (by omega) (by omega)) rfl ?_
          simp only [Option.toList, List.cons_append, List.nil_append]
          have bb := fo_rng (σ := (n_st ν)) hi (p) (((4 * g) + (k : Int)))
          refine g_iload_n (i := 3) (pc := 52) dX4_isInPlace_52 rfl rfl ?_
          refine g_iload (pc := 53) dX4_isInPlace_53 rfl ?_
          refine g_iadd (pc := 55) dX4_isInPlace_55 ?_
          refine g_c_ne (tgt := 63) (pc := 56) dX4_isInPlace_56 (by omega) (by decide) (fun c56 => ?_) (fun c56 => ?_)
          · skip
            refine g_iconst (pc := 63) dX4_isInPlace_63 ?_
            refine g_istore (pc := 64) dX4_isInPlace_64 (by decide) rfl ?_
            simp only [List.set_cons_succ, List.set_cons_zero]
            refine g_iinc (pc := 66) dX4_isInPlace_66 rfl (by decide) rfl ?_
            simp only [List.set_cons_succ, List.set_cons_zero]
            refine g_goto (tgt := 30) (pc := 69) dX4_isInPlace_69 (by decide) ?_
            refine G.eqL (congrArg (fun z => [some (vR 79), some (vI p), some (vI g), some (vI (fo (n_st ν) p (4 * g))), some (vI z), some (vI ((k : Int) + 1))]) ?_) (ih (by omega))
            refine (b2_f (fun q => ?_)).symm
            have q2 := of_decide_eq_true q
            have q3 := q2.2.2 k (by omega) h1k
            omega
          · skip
            refine g_iconst (pc := 59) dX4_isInPlace_59 ?_
            refine g_goto (tgt := 64) (pc := 60) dX4_isInPlace_60 (by decide) ?_
            refine g_istore (pc := 64) dX4_isInPlace_64 (by decide) rfl ?_
            simp only [List.set_cons_succ, List.set_cons_zero]
            refine g_iinc (pc := 66) dX4_isInPlace_66 rfl (by decide) rfl ?_
            simp only [List.set_cons_succ, List.set_cons_zero]
            refine g_goto (tgt := 30) (pc := 69) dX4_isInPlace_69 (by decide) ?_
            refine G.eqL (congrArg (fun z => [some (vR 79), some (vI p), some (vI g), some (vI (fo (n_st ν) p (4 * g))), some (vI z), some (vI ((k : Int) + 1))]) ?_) (ih (by omega))
            have q2 := y8.mp (by omega)
            refine (b2_t (decide_eq_true ⟨q2.1, q2.2.1, fun i hi9 h1 => ?_⟩)).symm
            rcases Nat.lt_or_ge i k with q | q
            · exact q2.2.2 i q h1
            · rw [show i = k by omega]
              omega
    · skip
      refine g_iconst (pc := 20) dX4_isInPlace_20 ?_
      refine g_goto (tgt := 25) (pc := 21) dX4_isInPlace_21 (by decide) ?_
      refine g_istore (pc := 25) dX4_isInPlace_25 (by decide) rfl ?_
      simp only [List.set_cons_succ, List.set_cons_zero]
      refine g_iconst (pc := 27) dX4_isInPlace_27 ?_
      refine g_istore (pc := 28) dX4_isInPlace_28 (by decide) rfl ?_
      simp only [List.set_cons_succ, List.set_cons_zero]
      refine G.eqL (L' := [some (vR 79), some (vI p), some (vI g), some (vI (fo (n_st ν) p (4 * g))), some (vI (b2 (decide (fo (n_st ν) p (4 * g) ≠ -1 ∧ (fo (n_st ν) p (4 * g)).tmod 4 = 0 ∧ ∀ i : Nat, i < 1 → 1 ≤ i → fo (n_st ν) p (4 * g + i) = fo (n_st ν) p (4 * g) + i)))), some (vI ((1 : Nat) : Int))]) (congrArg (fun z => [some (vR 79), some (vI p), some (vI g), some (vI (fo (n_st ν) p (4 * g))), some (vI (z)), some (vI ((1 : Nat) : Int))]) ?_) ?_
      · first
        | (exact (b2_t (decide_eq_true ⟨by omega, by omega, fun i hi9 h1 => absurd h1 (by omega)⟩)).symm)
        | (exact (b2_f (fun q => by have q2 := of_decide_eq_true q; omega)).symm)
      refine lp_up (P := fun k => 1 ≤ k → G M_X4_isInPlace none al al 30 [some (vR 79), some (vI p), some (vI g), some (vI (fo (n_st ν) p (4 * g))), some (vI (b2 (decide (fo (n_st ν) p (4 * g) ≠ -1 ∧ (fo (n_st ν) p (4 * g)).tmod 4 = 0 ∧ ∀ i : Nat, i < k → 1 ≤ i → fo (n_st ν) p (4 * g + i) = fo (n_st ν) p (4 * g) + i)))), some (vI k)] [] (cW κ (dE ν) o) 0 0 (dt (some (vI (b2 (ip (n_st ν) p g)))) (cW κ (dE (ν)) o))) 4 ?_ ?_ 1 (by decide) (Nat.le_refl 1)
      · intro _
        show G _ _ _ _ _ _ _ _ _ _ _
        have y9 := b2_rng (decide (fo (n_st ν) p (4 * g) ≠ -1 ∧ (fo (n_st ν) p (4 * g)).tmod 4 = 0 ∧ ∀ i : Nat, i < 4 → 1 ≤ i → fo (n_st ν) p (4 * g + i) = fo (n_st ν) p (4 * g) + i))
        refine g_iload (pc := 30) dX4_isInPlace_30 rfl ?_
        refine g_iconst (pc := 32) dX4_isInPlace_32 ?_
        refine g_c_ge (tgt := 72) (pc := 33) dX4_isInPlace_33 (by omega) (by decide) (fun c33 => ?_) (fun c33 => absurd c33 (by omega))
        refine g_iload (pc := 72) dX4_isInPlace_72 rfl ?_
        refine g_zret (pc := 74) rfl dX4_isInPlace_74 (by omega) (fun h => h) ?_
        exact dt_i rfl rfl
      · intro k hk ih h1k
        have y9 := b2_rng (decide (fo (n_st ν) p (4 * g) ≠ -1 ∧ (fo (n_st ν) p (4 * g)).tmod 4 = 0 ∧ ∀ i : Nat, i < k → 1 ≤ i → fo (n_st ν) p (4 * g + i) = fo (n_st ν) p (4 * g) + i))
        have y8 := b2_dec (p := (fo (n_st ν) p (4 * g) ≠ -1 ∧ (fo (n_st ν) p (4 * g)).tmod 4 = 0 ∧ ∀ i : Nat, i < k → 1 ≤ i → fo (n_st ν) p (4 * g + i) = fo (n_st ν) p (4 * g) + i))
        show G _ _ _ _ _ _ _ _ _ _ _
        refine g_iload (pc := 30) dX4_isInPlace_30 rfl ?_
        refine g_iconst (pc := 32) dX4_isInPlace_32 ?_
        refine g_c_ge (tgt := 72) (pc := 33) dX4_isInPlace_33 (by omega) (by decide) (fun c33 => absurd c33 (by omega)) (fun c33 => ?_)
        refine g_iload (pc := 36) dX4_isInPlace_36 rfl ?_
        refine g_z_eq (tgt := 63) (pc := 38) dX4_isInPlace_38 (by omega) (by decide) (fun c38 => ?_) (fun c38 => ?_)
        · skip
          refine g_iconst (pc := 63) dX4_isInPlace_63 ?_
          refine g_istore (pc := 64) dX4_isInPlace_64 (by decide) rfl ?_
          simp only [List.set_cons_succ, List.set_cons_zero]
          refine g_iinc (pc := 66) dX4_isInPlace_66 rfl (by decide) rfl ?_
          simp only [List.set_cons_succ, List.set_cons_zero]
          refine g_goto (tgt := 30) (pc := 69) dX4_isInPlace_69 (by decide) ?_
          refine G.eqL (congrArg (fun z => [some (vR 79), some (vI p), some (vI g), some (vI (fo (n_st ν) p (4 * g))), some (vI z), some (vI ((k : Int) + 1))]) ?_) (ih (by omega))
          refine (b2_f (fun q => ?_)).symm
          have q2 := of_decide_eq_true q
          have q3 : b2 (decide (fo (n_st ν) p (4 * g) ≠ -1 ∧ (fo (n_st ν) p (4 * g)).tmod 4 = 0 ∧ ∀ i : Nat, i < k → 1 ≤ i → fo (n_st ν) p (4 * g + i) = fo (n_st ν) p (4 * g) + i)) = 1 := b2_dec.mpr ⟨q2.1, q2.2.1, fun i hi9 h1 => q2.2.2 i (by omega) h1⟩
          omega
        · skip
          refine g_aload_n (i := 0) (pc := 41) dX4_isInPlace_41 rfl rfl ?_
          refine g_iload_n (i := 1) (pc := 42) dX4_isInPlace_42 rfl rfl ?_
          refine g_iconst (pc := 43) dX4_isInPlace_43 ?_
          refine g_iload_n (i := 2) (pc := 44) dX4_isInPlace_44 rfl rfl ?_
          refine g_imul (pc := 45) dX4_isInPlace_45 ?_
          refine g_iload (pc := 46) dX4_isInPlace_46 rfl ?_
          refine g_iadd (pc := 48) dX4_isInPlace_48 ?_
          refine g_v2 (pc := 49) okV_X4_frameOf rfl l_X4_53 dX4_isInPlace_49 (c_79) hc_4 (by decide) (by decide) (Nat.le_of_ble_eq_true rfl) (t_X4_frameOf hi (by omega) (by omega)) rfl ?_
          simp only [Option.toList, List.cons_append, List.nil_append]
          have bb := fo_rng (σ := (n_st ν)) hi (p) (((4 * g) + (k : Int)))
          refine g_iload_n (i := 3) (pc := 52) dX4_isInPlace_52 rfl rfl ?_
          refine g_iload (pc := 53) dX4_isInPlace_53 rfl ?_
          refine g_iadd (pc := 55) dX4_isInPlace_55 ?_
          refine g_c_ne (tgt := 63) (pc := 56) dX4_isInPlace_56 (by omega) (by decide) (fun c56 => ?_) (fun c56 => ?_)
          · skip
            refine g_iconst (pc := 63) dX4_isInPlace_63 ?_
            refine g_istore (pc := 64) dX4_isInPlace_64 (by decide) rfl ?_
            simp only [List.set_cons_succ, List.set_cons_zero]
            refine g_iinc (pc := 66) dX4_isInPlace_66 rfl (by decide) rfl ?_
            simp only [List.set_cons_succ, List.set_cons_zero]
            refine g_goto (tgt := 30) (pc := 69) dX4_isInPlace_69 (by decide) ?_
            refine G.eqL (congrArg (fun z => [some (vR 79), some (vI p), some (vI g), some (vI (fo (n_st ν) p (4 * g))), some (vI z), some (vI ((k : Int) + 1))]) ?_) (ih (by omega))
            refine (b2_f (fun q => ?_)).symm
            have q2 := of_decide_eq_true q
            have q3 := q2.2.2 k (by omega) h1k
            omega
          · skip
            refine g_iconst (pc := 59) dX4_isInPlace_59 ?_
            refine g_goto (tgt := 64) (pc := 60) dX4_isInPlace_60 (by decide) ?_
            refine g_istore (pc := 64) dX4_isInPlace_64 (by decide) rfl ?_
            simp only [List.set_cons_succ, List.set_cons_zero]
            refine g_iinc (pc := 66) dX4_isInPlace_66 rfl (by decide) rfl ?_
            simp only [List.set_cons_succ, List.set_cons_zero]
            refine g_goto (tgt := 30) (pc := 69) dX4_isInPlace_69 (by decide) ?_
            refine G.eqL (congrArg (fun z => [some (vR 79), some (vI p), some (vI g), some (vI (fo (n_st ν) p (4 * g))), some (vI z), some (vI ((k : Int) + 1))]) ?_) (ih (by omega))
            have q2 := y8.mp (by omega)
            refine (b2_t (decide_eq_true ⟨q2.1, q2.2.1, fun i hi9 h1 => ?_⟩)).symm
            rcases Nat.lt_or_ge i k with q | q
            · exact q2.2.2 i q h1
            · rw [show i = k by omega]
              omega
set_option maxRecDepth 20000 in
set_option maxHeartbeats 4000000 in
theorem t_X4_whyNoMarriage {κ : KT} {ν : NT} {o : Nat → Int} {al : Bool} (hi : Inv (n_st ν)) {p g : Int} (h_p : 0 ≤ p ∧ p < 4) (h_g : 0 ≤ g ∧ g < 4) : GM M_X4_whyNoMarriage al [vR 79, vI p, vI g] (cW κ (dE ν) o) 0 0 (dt (some (vI (wn (n_st ν) p g))) (cW κ (dE (ν)) o)) := by
  show G _ none _ _ 0 [some (vR 79), some (vI p), some (vI g)] [] _ _ _ _
  refine g_aload_n (i := 0) (pc := 0) dX4_whyNoMarriage_0 rfl rfl ?_
  refine g_iload_n (i := 1) (pc := 1) dX4_whyNoMarriage_1 rfl rfl ?_
  refine g_iload_n (i := 2) (pc := 2) dX4_whyNoMarriage_2 rfl rfl ?_
  refine g_v2 (pc := 3) okV_X4_isBig rfl l_X4_60 dX4_whyNoMarriage_3 (c_79) hc_4 (by decide) (by decide) (Nat.le_of_ble_eq_true rfl) (t_X4_isBig hi (by omega) (by omega)) rfl ?_
  simp only [Option.toList, List.cons_append, List.nil_append]
  have bb := b2_rng (big (n_st ν) (p) (g))
  refine g_z_eq (tgt := 11) (pc := 6) dX4_whyNoMarriage_6 (by omega) (by decide) (fun c6 => ?_) (fun c6 => ?_)
  · skip
    refine g_aload_n (i := 0) (pc := 11) dX4_whyNoMarriage_11 rfl rfl ?_
    refine g_iload_n (i := 1) (pc := 12) dX4_whyNoMarriage_12 rfl rfl ?_
    refine g_iload_n (i := 2) (pc := 13) dX4_whyNoMarriage_13 rfl rfl ?_
    refine g_v2 (pc := 14) okV_X4_placedIn rfl l_X4_70 dX4_whyNoMarriage_14 (c_79) hc_4 (by decide) (by decide) (Nat.le_of_ble_eq_true rfl) (t_X4_placedIn hi (by omega) (by omega)) rfl ?_
    simp only [Option.toList, List.cons_append, List.nil_append]
    have bb := pf_rng (n_st ν) (p) (g)
    refine g_iconst (pc := 17) dX4_whyNoMarriage_17 ?_
    refine g_c_ge (tgt := 23) (pc := 18) dX4_whyNoMarriage_18 (by omega) (by decide) (fun c18 => ?_) (fun c18 => ?_)
    · skip
      refine g_aload_n (i := 0) (pc := 23) dX4_whyNoMarriage_23 rfl rfl ?_
      refine g_iload_n (i := 1) (pc := 24) dX4_whyNoMarriage_24 rfl rfl ?_
      refine g_iload_n (i := 2) (pc := 25) dX4_whyNoMarriage_25 rfl rfl ?_
      refine g_v2 (pc := 26) okV_X4_sharedIn rfl l_X4_64 dX4_whyNoMarriage_26 (c_79) hc_4 (by decide) (by decide) (Nat.le_of_ble_eq_true rfl) (t_X4_sharedIn hi (by omega) (by omega)) rfl ?_
      simp only [Option.toList, List.cons_append, List.nil_append]
      have bb := ps_rng (n_st ν) (p) (g)
      refine g_z_le (tgt := 36) (pc := 29) dX4_whyNoMarriage_29 (by omega) (by decide) (fun c29 => ?_) (fun c29 => ?_)
      · skip
        refine g_aload_n (i := 0) (pc := 36) dX4_whyNoMarriage_36 rfl rfl ?_
        refine g_iload_n (i := 1) (pc := 37) dX4_whyNoMarriage_37 rfl rfl ?_
        refine g_iload_n (i := 2) (pc := 38) dX4_whyNoMarriage_38 rfl rfl ?_
        refine g_v2 (pc := 39) okV_X4_isInPlace rfl l_X4_106 dX4_whyNoMarriage_39 (c_79) hc_4 (by decide) (by decide) (Nat.le_of_ble_eq_true rfl) (t_X4_isInPlace hi (by omega) (by omega)) rfl ?_
        simp only [Option.toList, List.cons_append, List.nil_append]
        have bb := b2_rng (ip (n_st ν) (p) (g))
        refine g_z_ne (tgt := 57) (pc := 42) dX4_whyNoMarriage_42 (by omega) (by decide) (fun c42 => ?_) (fun c42 => ?_)
        · skip
          refine g_iconst (pc := 57) dX4_whyNoMarriage_57 ?_
          refine g_iret (pc := 58) rfl dX4_whyNoMarriage_58 (fun h => h) ?_
          refine dt_i ?_ rfl
          unfold wn
          first
          | (rw [if_neg (b2_0.mp (by omega)), if_neg (by omega), if_pos (by omega)]; done)
          | (rw [if_neg (b2_0.mp (by omega)), if_neg (by omega), if_neg (by omega), if_pos (Or.inl (b2_1.mp (by omega)))]; done)
          | (rw [if_neg (b2_0.mp (by omega)), if_neg (by omega), if_neg (by omega), if_pos (Or.inr (by omega))]; done)
          | (rw [if_neg (b2_0.mp (by omega)), if_neg (by omega), if_neg (by omega), if_neg (by
              rintro (q | q)
              · have q2 := b2_1.mpr q
                omega
              · omega)])
        · skip
          refine g_aload_n (i := 0) (pc := 45) dX4_whyNoMarriage_45 rfl rfl ?_
          refine g_v0 (pc := 46) okV_X4_freeRun rfl l_X4_73 dX4_whyNoMarriage_46 (c_79) hc_4 (by decide) (by decide) (Nat.le_of_ble_eq_true rfl) (t_X4_freeRun hi) rfl ?_
          simp only [Option.toList, List.cons_append, List.nil_append]
          have bb := lfr_rng (n_st ν)
          refine g_iconst (pc := 49) dX4_whyNoMarriage_49 ?_
          refine g_c_ne (tgt := 57) (pc := 50) dX4_whyNoMarriage_50 (by omega) (by decide) (fun c50 => ?_) (fun c50 => ?_)
          · skip
            refine g_iconst (pc := 57) dX4_whyNoMarriage_57 ?_
            refine g_iret (pc := 58) rfl dX4_whyNoMarriage_58 (fun h => h) ?_
            refine dt_i ?_ rfl
            unfold wn
            first
            | (rw [if_neg (b2_0.mp (by omega)), if_neg (by omega), if_pos (by omega)]; done)
            | (rw [if_neg (b2_0.mp (by omega)), if_neg (by omega), if_neg (by omega), if_pos (Or.inl (b2_1.mp (by omega)))]; done)
            | (rw [if_neg (b2_0.mp (by omega)), if_neg (by omega), if_neg (by omega), if_pos (Or.inr (by omega))]; done)
            | (rw [if_neg (b2_0.mp (by omega)), if_neg (by omega), if_neg (by omega), if_neg (by
                rintro (q | q)
                · have q2 := b2_1.mpr q
                  omega
                · omega)])
          · skip
            refine g_iconst (pc := 53) dX4_whyNoMarriage_53 ?_
            refine g_goto (tgt := 58) (pc := 54) dX4_whyNoMarriage_54 (by decide) ?_
            refine g_iret (pc := 58) rfl dX4_whyNoMarriage_58 (fun h => h) ?_
            refine dt_i ?_ rfl
            unfold wn
            first
            | (rw [if_neg (b2_0.mp (by omega)), if_neg (by omega), if_pos (by omega)]; done)
            | (rw [if_neg (b2_0.mp (by omega)), if_neg (by omega), if_neg (by omega), if_pos (Or.inl (b2_1.mp (by omega)))]; done)
            | (rw [if_neg (b2_0.mp (by omega)), if_neg (by omega), if_neg (by omega), if_pos (Or.inr (by omega))]; done)
            | (rw [if_neg (b2_0.mp (by omega)), if_neg (by omega), if_neg (by omega), if_neg (by
                rintro (q | q)
                · have q2 := b2_1.mpr q
                  omega
                · omega)])
      · skip
        refine g_iconst (pc := 32) dX4_whyNoMarriage_32 ?_
        refine g_goto (tgt := 58) (pc := 33) dX4_whyNoMarriage_33 (by decide) ?_
        refine g_iret (pc := 58) rfl dX4_whyNoMarriage_58 (fun h => h) ?_
        refine dt_i ?_ rfl
        unfold wn
        first
        | (rw [if_neg (b2_0.mp (by omega)), if_neg (by omega), if_pos (by omega)]; done)
        | (rw [if_neg (b2_0.mp (by omega)), if_neg (by omega), if_neg (by omega), if_pos (Or.inl (b2_1.mp (by omega)))]; done)
        | (rw [if_neg (b2_0.mp (by omega)), if_neg (by omega), if_neg (by omega), if_pos (Or.inr (by omega))]; done)
        | (rw [if_neg (b2_0.mp (by omega)), if_neg (by omega), if_neg (by omega), if_neg (by
            rintro (q | q)
            · have q2 := b2_1.mpr q
              omega
            · omega)])
    · skip
      refine g_iconst (pc := 21) dX4_whyNoMarriage_21 ?_
      refine g_iret (pc := 22) rfl dX4_whyNoMarriage_22 (fun h => h) ?_
      refine dt_i ?_ rfl
      unfold wn
      rw [if_neg (b2_0.mp (by omega)), if_pos (by omega)]
  · skip
    refine g_iconst (pc := 9) dX4_whyNoMarriage_9 ?_
    refine g_iret (pc := 10) rfl dX4_whyNoMarriage_10 (fun h => h) ?_
    refine dt_i ?_ rfl
    unfold wn
    rw [if_pos (b2_1.mp (by omega))]
set_option maxRecDepth 20000 in
set_option maxHeartbeats 4000000 in
theorem t_X4_isEmpty {κ : KT} {ν : NT} {o : Nat → Int} {al : Bool} (hi : Inv (n_st ν)) {f : Int} (h_f : -1 ≤ f ∧ f < 32) : GM M_X4_isEmpty al [vR 79, vI f] (cW κ (dE ν) o) 0 0 (dt (some (vI (b2 (emp (n_st ν) f)))) (cW κ (dE (ν)) o)) := by
  show G _ none _ _ 0 [some (vR 79), some (vI f)] [] _ _ _ _
  refine g_iload_n (i := 1) (pc := 0) dX4_isEmpty_0 rfl rfl ?_
  refine g_iconst (pc := 1) dX4_isEmpty_1 ?_
  refine g_c_eq (tgt := 26) (pc := 2) dX4_isEmpty_2 (by omega) (by decide) (fun c2 => ?_) (fun c2 => ?_)
  · skip
    refine g_iconst (pc := 26) dX4_isEmpty_26 ?_
    refine g_zret (pc := 27) rfl dX4_isEmpty_27 (by omega) (fun h => h) ?_
    first
    | exact dt_i (b2_t (by unfold emp; rw [decide_eq_true_eq]; omega)).symm rfl
    | exact dt_i (b2_f (by unfold emp; rw [decide_eq_true_eq]; omega)).symm rfl
  · skip
    refine g_aload_n (i := 0) (pc := 5) dX4_isEmpty_5 rfl rfl ?_
    refine g_iload_n (i := 1) (pc := 6) dX4_isEmpty_6 rfl rfl ?_
    refine g_v1 (pc := 7) okV_X4_uses rfl l_X4_46 dX4_isEmpty_7 (c_79) hc_4 (by decide) (by decide) (Nat.le_of_ble_eq_true rfl) (t_X4_uses hi (by omega)) rfl ?_
    simp only [Option.toList, List.cons_append, List.nil_append]
    have bb := uses_rng (s_fr (n_st ν)) (f)
    refine g_iconst (pc := 10) dX4_isEmpty_10 ?_
    refine g_c_ne (tgt := 26) (pc := 11) dX4_isEmpty_11 (by omega) (by decide) (fun c11 => ?_) (fun c11 => ?_)
    · skip
      refine g_iconst (pc := 26) dX4_isEmpty_26 ?_
      refine g_zret (pc := 27) rfl dX4_isEmpty_27 (by omega) (fun h => h) ?_
      first
      | exact dt_i (b2_t (by unfold emp; rw [decide_eq_true_eq]; omega)).symm rfl
      | exact dt_i (b2_f (by unfold emp; rw [decide_eq_true_eq]; omega)).symm rfl
    · skip
      refine g_aload_n (i := 0) (pc := 14) dX4_isEmpty_14 rfl rfl ?_
      refine g_iload_n (i := 1) (pc := 15) dX4_isEmpty_15 rfl rfl ?_
      refine g_v1 (pc := 16) okV_X4_valueOf rfl l_X4_109 dX4_isEmpty_16 (c_79) hc_4 (by decide) (by decide) (Nat.le_of_ble_eq_true rfl) (t_X4_valueOf hi (by omega)) rfl ?_
      simp only [Option.toList, List.cons_append, List.nil_append]
      have bb := va_rng (σ := (n_st ν)) hi (f)
      refine g_z_ne (tgt := 26) (pc := 19) dX4_isEmpty_19 (by omega) (by decide) (fun c19 => ?_) (fun c19 => ?_)
      · skip
        refine g_iconst (pc := 26) dX4_isEmpty_26 ?_
        refine g_zret (pc := 27) rfl dX4_isEmpty_27 (by omega) (fun h => h) ?_
        first
        | exact dt_i (b2_t (by unfold emp; rw [decide_eq_true_eq]; omega)).symm rfl
        | exact dt_i (b2_f (by unfold emp; rw [decide_eq_true_eq]; omega)).symm rfl
      · skip
        refine g_iconst (pc := 22) dX4_isEmpty_22 ?_
        refine g_goto (tgt := 27) (pc := 23) dX4_isEmpty_23 (by decide) ?_
        refine g_zret (pc := 27) rfl dX4_isEmpty_27 (by omega) (fun h => h) ?_
        first
        | exact dt_i (b2_t (by unfold emp; rw [decide_eq_true_eq]; omega)).symm rfl
        | exact dt_i (b2_f (by unfold emp; rw [decide_eq_true_eq]; omega)).symm rfl
end MA
