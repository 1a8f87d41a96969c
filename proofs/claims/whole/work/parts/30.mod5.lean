/-! THE REFERENCE'S TRIALS (printed by wip/whole/mod5.py, but for the first rows) -/
section ME
def mi (σ : SG) (x : Int) : Int := ff (fun k => hasP σ ((k / 4 : Nat) : Int) && decide (wn σ ((k / 4 : Nat) : Int) ((k % 4 : Nat) : Int) = 0) && decide (b2 (ip σ ((k / 4 : Nat) : Int) ((k % 4 : Nat) : Int)) = x)) 16
theorem mi_1 (σ : SG) : mi σ 1 = mi1 σ := by
  refine ff_cong (fun k _ => ?_)
  by_cases q : ip σ ((k / 4 : Nat) : Int) ((k % 4 : Nat) : Int) = true
  · rw [q]; rfl
  · rw [Bool.not_eq_true] at q; rw [q]; rfl
theorem mi_0 (σ : SG) : mi σ 0 = mi0 σ := by
  refine ff_cong (fun k _ => ?_)
  by_cases q : ip σ ((k / 4 : Nat) : Int) ((k % 4 : Nat) : Int) = true
  · rw [q]; rfl
  · rw [Bool.not_eq_true] at q; rw [q]; rfl
theorem mi1_rng (σ : SG) : -1 ≤ mi1 σ ∧ mi1 σ < 16 := ff_rng _ 16
theorem mi0_rng (σ : SG) : -1 ≤ mi0 σ ∧ mi0 σ < 16 := ff_rng _ 16
theorem mv_bg (σ : SG) (p g r : Int) : ∀ j, s_bg (s_mv σ p g r j) = s_bg σ
  | 0 => rfl
  | j + 1 => mv_bg σ p g r j
theorem mar_bg (σ : SG) (p g : Int) : s_bg (s_mar σ p g) = va_up (s_bg σ) (4 * p + g).toNat 1 := by
  unfold s_mar
  split
  · rfl
  · show va_up (s_bg (s_mv σ p g (lfr σ) 4)) _ 1 = _
    rw [mv_bg]
theorem nbg_mar {σ : SG} (h : nxt σ ≠ -1) : nbg (s_mar σ (nxt σ / 4) (nxt σ % 4)) = nbg σ + 1 := by
  obtain ⟨h1, h2, h3⟩ := nxt_ok h
  have h4 := (wn_0 h3).1
  have h5 := nxt_rng σ
  have e : (4 * (nxt σ / 4) + nxt σ % 4).toNat = (nxt σ).toNat := by omega
  have h6 : ¬ s_bg σ (nxt σ).toNat = 1 := fun q => h4 (decide_eq_true ⟨h1.1, h1.2.1, h2.1, h2.2, by rw [e]; exact q⟩)
  have h7 := ct_upd (p := fun j => decide (s_bg σ j = 1)) (q := fun j => decide (va_up (s_bg σ) (nxt σ).toNat 1 j = 1)) (i := (nxt σ).toNat) (n := 16) (by omega) (fun j hj => by simp only [up_n hj])
  simp only [up_s, decide_eq_true_eq] at h7
  rw [if_neg h6, if_pos trivial] at h7
  unfold nbg
  rw [mar_bg, e]
  omega
theorem nbg_itm {σ : SG} : ∀ k : Nat, (∀ j : Nat, j < k → nxt (itm σ j) ≠ -1) → nbg (itm σ k) = nbg σ + k
  | 0, _ => (Int.add_zero _).symm
  | k + 1, h => by
    have h1 := nbg_itm k (fun j hj => h j (by omega))
    have h2 := h k (by omega)
    show nbg (dn (itm σ k)) = _
    unfold dn
    rw [if_pos h2, nbg_mar h2, h1]
    omega
theorem cmv_at {σ : SG} {k : Nat} (hk : k ≤ 16) (h : nxt (itm σ k) = -1) (hH : ∀ j : Nat, j < k → nxt (itm σ j) ≠ -1) : cmv σ = k := by
  unfold cmv
  rcases Nat.lt_or_ge k 16 with q | q
  · rw [ff_some (p := fun k => decide (nxt (itm σ k) = -1)) (k := k) (decide_eq_true h) (fun j hj z => hH j hj (of_decide_eq_true z)) q, if_neg (by omega)]
  · rw [ff_none (p := fun k => decide (nxt (itm σ k) = -1)) (fun j hj z => hH j (by omega) (of_decide_eq_true z)), if_pos rfl]
    omega
set_option maxRecDepth 20000 in
theorem wri_ex (σ : SG) (p v x : Int) : s_ex (s_wri σ p v x) = s_ex σ := by
  have h1 : s_ex (s_wri1 σ p v) = s_ex σ := by
    unfold s_wri1
    split
    · unfold s_bri
      show s_ex (if s_ea σ = 1 ∧ lfr σ ≠ -1 ∧ pf σ p (v.tdiv 4) = 0 then s_who σ p (v.tdiv 4) (lfr σ) else s_tsf σ p v) = _
      split
      · exact wh_ex σ p (v.tdiv 4) (lfr σ) 4
      · exact tsf_ex σ p v
    · split
      · rfl
      · unfold s_cop
        show s_ex (s_tsf (if big σ p (v.tdiv 4) = true then s_torn σ p (v.tdiv 4) else σ) p v) = _
        rw [tsf_ex]
        split <;> rfl
  unfold s_wri
  split
  · exact h1
  · exact h1
theorem itw_ex (σ : SG) (p : Int) : ∀ k, s_ex (itw σ p k) = s_ex σ
  | 0 => rfl
  | k + 1 => by
    show s_ex (dw (itw σ p k) p k 1) = _
    unfold dw
    split
    · exact itw_ex σ p k
    · rw [wri_ex, itw_ex σ p k]
theorem itw_pg {σ : SG} {p : Int} (h : hasP σ p = true) {k : Nat} (hk : k < 16) : hasPg (itw σ p k) p k = true := by
  unfold hasPg hasP at *
  rw [itw_ex, h, Bool.true_and, decide_eq_true_eq]
  omega
theorem dwv1 {σ : SG} {p v : Int} : dwv σ p v 1 = oc σ p v := by
  unfold dwv
  split
  · omega
  · rfl
theorem dw1 {σ : SG} {p v : Int} (h : oc σ p v ≠ -1) : dw σ p v 1 = s_wri σ p v 1 := by
  unfold dw
  rw [if_neg (by omega)]
theorem cwv_at {σ : SG} {p : Int} {k : Nat} (hk : k < 16) (h : oc (itw σ p k) p k = -1) (hH : ∀ j : Nat, j < k → oc (itw σ p j) p j ≠ -1) : cwv σ p = k := by
  unfold cwv
  rw [ff_some (p := fun k => decide (dwv (itw σ p k) p k 1 = -1)) (k := k) (decide_eq_true (by rw [dwv1]; exact h)) (fun j hj z => hH j hj (by rw [← dwv1 (σ := itw σ p j)]; exact of_decide_eq_true z)) hk, if_neg (by omega)]
theorem cwv_16 {σ : SG} {p : Int} (hH : ∀ j : Nat, j < 16 → oc (itw σ p j) p j ≠ -1) : cwv σ p = 16 := by
  unfold cwv
  rw [ff_none (p := fun k => decide (dwv (itw σ p k) p k 1 = -1)) (fun j hj z => hH j hj (by rw [← dwv1 (σ := itw σ p j)]; exact of_decide_eq_true z)), if_pos rfl]
theorem n_ke_st (ν : NT) (σ : SG) : n_ke (n_setst ν σ) = n_ke ν := rfl
theorem n_ke_ke (ν : NT) (σ : SG) : n_ke (n_setke ν σ) = σ := rfl
theorem n_sk_st (ν : NT) (σ : SG) : n_sk (n_setst ν σ) = n_sk ν := rfl
theorem n_sk_sk (ν : NT) (σ : SG) : n_sk (n_setsk ν σ) = σ := rfl
theorem cpk_ke {κ : KT} {ν : NT} {o : Nat → Int} {σ : SG} (h : n_ke ν = σ) : (cW κ (dE ν) o).set 80 (cArr 0 121 (cp121 (d_ke (dE ν)) (d_st (dE ν)) 0 0)) = cW κ (dE (n_setst ν σ)) o := by
  subst h
  exact (congrArg (fun z => (cW κ (dE ν) o).set 80 (cArr 0 121 z)) (cp_ss (n_ke ν) (n_st ν))).trans v_st
theorem cpk_sk {κ : KT} {ν : NT} {o : Nat → Int} {σ : SG} (h : n_sk ν = σ) : (cW κ (dE ν) o).set 80 (cArr 0 121 (cp121 (d_sk (dE ν)) (d_st (dE ν)) 0 0)) = cW κ (dE (n_setst ν σ)) o := by
  subst h
  exact (congrArg (fun z => (cW κ (dE ν) o).set 80 (cArr 0 121 z)) (cp_ss (n_sk ν) (n_st ν))).trans v_st
/-- scripts: what the numbers are divided by -/
def gq (n : Int) (k : Nat) : Int := if n - k = 3 then 10000000000 else if n - k = 2 then 100000 else if n - k = 1 then 1 else 0
theorem gq_s {n : Int} {k : Nat} (h : n ≤ 3) (hk : (k : Int) < n) : Int.tdiv (gq n k) 100000 = gq n (k + 1) := by
  unfold gq
  rcases (by omega : n - k = 3 ∨ n - k = 2 ∨ n - k = 1) with q | q | q
  · rw [if_pos q, if_neg (by omega), if_pos (by omega)]; decide
  · rw [if_neg (by omega), if_pos q, if_neg (by omega), if_neg (by omega), if_pos (by omega)]; decide
  · rw [if_neg (by omega), if_neg (by omega), if_pos q, if_neg (by omega), if_neg (by omega), if_neg (by omega)]; decide
theorem gq_rng {n : Int} {k : Nat} (h : n ≤ 3) (hk : (k : Int) < n) : 0 < gq n k ∧ gq n k ≤ 10000000000 := by
  unfold gq
  rcases (by omega : n - k = 3 ∨ n - k = 2 ∨ n - k = 1) with q | q | q
  · rw [if_pos q]; decide
  · rw [if_neg (by omega), if_pos q]; decide
  · rw [if_neg (by omega), if_neg (by omega), if_pos q]; decide
theorem wl_1 {s : Int} (h : 0 ≤ s) : wl s 1 = s / 100000 := Int.tdiv_eq_ediv_of_nonneg h
theorem wl_2 {s : Int} (h : 0 ≤ s) : wl s 2 = s / 10000000000 := by
  show (wl s 1).tdiv 100000 = _
  rw [wl_1 h, Int.tdiv_eq_ediv_of_nonneg (by omega)]
  omega
theorem wl_3 {s : Int} (h : 0 ≤ s) : wl s 3 = s / 1000000000000000 := by
  show (wl s 2).tdiv 100000 = _
  rw [wl_2 h, Int.tdiv_eq_ediv_of_nonneg (by omega)]
  omega
theorem cmd_at {n s : Int} {k : Nat} (h : n ≤ 3) (hs : 0 ≤ s) (hk : (k : Int) < n) : Int.tmod (Int.tdiv s (gq n k)) 100000 = cmd n s k := by
  have e : Int.tdiv s (gq n k) = wl s (n - 1 - k).toNat := by
    unfold gq
    rw [Int.tdiv_eq_ediv_of_nonneg hs]
    rcases (by omega : n - k = 3 ∨ n - k = 2 ∨ n - k = 1) with q | q | q
    · rw [if_pos q, show (n - 1 - k).toNat = 2 by omega, wl_2 hs]
    · rw [if_neg (by omega), if_pos q, show (n - 1 - k).toNat = 1 by omega, wl_1 hs]
    · rw [if_neg (by omega), if_neg (by omega), if_pos q, show (n - 1 - k).toNat = 0 by omega, Int.ediv_one]; rfl
  rw [e]
  unfold cmd
  exact Int.tmod_eq_emod_of_nonneg (wl_rng hs _).1
def bnd (n : Int) : Int := if n = 1 then 100000 else if n = 2 then 10000000000 else 1000000000000000
theorem ru_1 {n s : Int} (h : n < 1 ∨ 3 < n ∨ s < 0 ∨ bnd n ≤ s) : xc_ru n s = 1 := by
  unfold xc_ru
  by_cases q : n < 1 ∨ 3 < n
  · rw [if_pos q]
  · rw [if_neg q]
    by_cases z : s < 0
    · rw [if_pos (Or.inl z)]
    · rw [if_pos (Or.inr ?_)]
      unfold bnd at h
      rcases (by omega : n = 1 ∨ n = 2 ∨ n = 3) with r | r | r <;> subst r
      · rw [if_pos rfl] at h
        rw [show (1 : Int).toNat = 1 from rfl, wl_1 (by omega)]; omega
      · rw [if_neg (by decide), if_pos rfl] at h
        rw [show (2 : Int).toNat = 2 from rfl, wl_2 (by omega)]; omega
      · rw [if_neg (by decide), if_neg (by decide)] at h
        rw [show (3 : Int).toNat = 3 from rfl, wl_3 (by omega)]; omega
theorem ru_0 {n s : Int} (h1 : 1 ≤ n ∧ n ≤ 3) (h2 : 0 ≤ s ∧ s < bnd n) : xc_ru n s = 0 := by
  unfold xc_ru
  rw [if_neg (by omega), if_neg ?_]
  unfold bnd at h2
  rcases (by omega : n = 1 ∨ n = 2 ∨ n = 3) with r | r | r <;> subst r
  · rw [if_pos rfl] at h2
    rw [show (1 : Int).toNat = 1 from rfl, wl_1 (by omega)]; omega
  · rw [if_neg (by decide), if_pos rfl] at h2
    rw [show (2 : Int).toNat = 2 from rfl, wl_2 (by omega)]; omega
  · rw [if_neg (by decide), if_neg (by decide)] at h2
    rw [show (3 : Int).toNat = 3 from rfl, wl_3 (by omega)]; omega
set_option maxRecDepth 20000 in
set_option maxHeartbeats 300000 in
theorem t_X4_firstToMarry {κ : KT} {ν : NT} {o : Nat → Int} {al : Bool} (hi : Inv (n_st ν)) {x : Int} (h_x : x = 0 ∨ x = 1) : GM M_X4_firstToMarry al [vR 79, vI x] (cW κ (dE ν) o) 0 0 (dt (some (vI (mi (n_st ν) x))) (cW κ (dE (ν)) o)) := by
  show G _ none _ _ 0 [some (vR 79), some (vI x), none, none, none, none] [] _ _ _ _
  refine g_iconst (pc := 0) dX4_firstToMarry_0 ?_
  refine g_istore_n (i := 2) (pc := 1) dX4_firstToMarry_1 rfl (by decide) rfl ?_
  simp only [List.set_cons_succ, List.set_cons_zero]
  refine g_bipush (pc := 2) dX4_firstToMarry_2 (by decide) ?_
  refine g_istore_n (i := 3) (pc := 4) dX4_firstToMarry_4 rfl (by decide) rfl ?_
  simp only [List.set_cons_succ, List.set_cons_zero]
  refine G.eqL (L' := [some (vR 79), some (vI x), some (vI (fx (fun k : Nat => hasP (n_st ν) ((k / 4 : Nat) : Int) && decide (wn (n_st ν) ((k / 4 : Nat) : Int) ((k % 4 : Nat) : Int) = 0) && decide (b2 (ip (n_st ν) ((k / 4 : Nat) : Int) ((k % 4 : Nat) : Int)) = x)) 16 16)), some (vI (((16 : Nat) : Int) - 1)), none, none]) (by simp only [fx_n]; rfl) ?_
  refine lp_dn (P := fun k => G M_X4_firstToMarry none al al 5 [some (vR 79), some (vI x), some (vI (fx (fun k : Nat => hasP (n_st ν) ((k / 4 : Nat) : Int) && decide (wn (n_st ν) ((k / 4 : Nat) : Int) ((k % 4 : Nat) : Int) = 0) && decide (b2 (ip (n_st ν) ((k / 4 : Nat) : Int) ((k % 4 : Nat) : Int)) = x)) 16 k)), some (vI ((k : Int) - 1)), none, none] [] (cW κ (dE ν) o) 0 0 (dt (some (vI (mi (n_st ν) x))) (cW κ (dE (ν)) o))) 16 ?_ ?_
  · show G _ _ _ _ _ _ _ _ _ _ _
    have yf := fx_rng (fun k : Nat => hasP (n_st ν) ((k / 4 : Nat) : Int) && decide (wn (n_st ν) ((k / 4 : Nat) : Int) ((k % 4 : Nat) : Int) = 0) && decide (b2 (ip (n_st ν) ((k / 4 : Nat) : Int) ((k % 4 : Nat) : Int)) = x)) 16 0
    
    refine g_iload_n (i := 3) (pc := 5) dX4_firstToMarry_5 rfl rfl ?_
    refine g_z_lt (tgt := 63) (pc := 6) dX4_firstToMarry_6 (by omega) (by decide) (fun c6 => ?_) (fun c6 => absurd c6 (by omega))
    refine g_iload_n (i := 2) (pc := 63) dX4_firstToMarry_63 rfl rfl ?_
    refine g_iret (pc := 64) rfl dX4_firstToMarry_64 (fun h => h) ?_
    exact dt_i (fx_0 _ _) rfl
  · intro k hk ih
    have yf := fx_rng (fun k : Nat => hasP (n_st ν) ((k / 4 : Nat) : Int) && decide (wn (n_st ν) ((k / 4 : Nat) : Int) ((k % 4 : Nat) : Int) = 0) && decide (b2 (ip (n_st ν) ((k / 4 : Nat) : Int) ((k % 4 : Nat) : Int)) = x)) 16 (k + 1)
    
    refine G.eqL (L' := [some (vR 79), some (vI x), some (vI (fx (fun k : Nat => hasP (n_st ν) ((k / 4 : Nat) : Int) && decide (wn (n_st ν) ((k / 4 : Nat) : Int) ((k % 4 : Nat) : Int) = 0) && decide (b2 (ip (n_st ν) ((k / 4 : Nat) : Int) ((k % 4 : Nat) : Int)) = x)) 16 (k + 1))), some (vI (k : Int)), none, none]) (congrArg (fun z => [some (vR 79), some (vI x), some (vI (fx (fun k : Nat => hasP (n_st ν) ((k / 4 : Nat) : Int) && decide (wn (n_st ν) ((k / 4 : Nat) : Int) ((k % 4 : Nat) : Int) = 0) && decide (b2 (ip (n_st ν) ((k / 4 : Nat) : Int) ((k % 4 : Nat) : Int)) = x)) 16 (k + 1))), some (vI z), none, none]) (show ((k + 1 : Nat) : Int) - 1 = (k : Int) by omega)) ?_
    show G _ _ _ _ _ _ _ _ _ _ _
    refine g_iload_n (i := 3) (pc := 5) dX4_firstToMarry_5 rfl rfl ?_
    refine g_z_lt (tgt := 63) (pc := 6) dX4_firstToMarry_6 (by omega) (by decide) (fun c6 => absurd c6 (by omega)) (fun c6 => ?_)
    refine g_iload_n (i := 3) (pc := 9) dX4_firstToMarry_9 rfl rfl ?_
    refine g_iconst (pc := 10) dX4_firstToMarry_10 ?_
    refine g_idiv (pc := 11) dX4_firstToMarry_11 (by omega) (by omega) ?_
    refine G.eqS (congrArg (fun z => vI z) (n_dv k 4)) ?_
    refine g_istore (pc := 12) dX4_firstToMarry_12 (by decide) rfl ?_
    simp only [List.set_cons_succ, List.set_cons_zero]
    refine g_iload_n (i := 3) (pc := 14) dX4_firstToMarry_14 rfl rfl ?_
    refine g_iconst (pc := 15) dX4_firstToMarry_15 ?_
    refine g_irem (pc := 16) dX4_firstToMarry_16 (by omega) (by omega) ?_
    refine G.eqS (congrArg (fun z => vI z) (n_md k 4)) ?_
    refine g_istore (pc := 17) dX4_firstToMarry_17 (by decide) rfl ?_
    simp only [List.set_cons_succ, List.set_cons_zero]
    refine g_aload_n (i := 0) (pc := 19) dX4_firstToMarry_19 rfl rfl ?_
    refine g_iload (pc := 20) dX4_firstToMarry_20 rfl ?_
    refine g_v1 (pc := 22) okV_X4_isProcess rfl l_X4_42 dX4_firstToMarry_22 (c_79) hc_4 (by decide) (by decide) (Nat.le_of_ble_eq_true rfl) (t_X4_isProcess hi (by omega)) rfl ?_
    simp only [Option.toList, List.cons_append, List.nil_append]
    have bb := b2_rng (hasP (n_st ν) (((k / 4 : Nat) : Int)))
    refine g_z_eq (tgt := 55) (pc := 25) dX4_firstToMarry_25 (by omega) (by decide) (fun c25 => ?_) (fun c25 => ?_)
    · skip
      refine g_iload_n (i := 2) (pc := 55) dX4_firstToMarry_55 rfl rfl ?_
      refine g_istore_n (i := 2) (pc := 56) dX4_firstToMarry_56 rfl (by decide) rfl ?_
      simp only [List.set_cons_succ, List.set_cons_zero]
      refine g_iinc (pc := 57) dX4_firstToMarry_57 rfl (by decide) rfl ?_
      simp only [List.set_cons_succ, List.set_cons_zero]
      refine g_goto (tgt := 5) (pc := 60) dX4_firstToMarry_60 (by decide) ?_
      refine G.drop 5 ?_
      refine G.drop 4 ?_
      simp only [List.set_cons_succ, List.set_cons_zero]
      refine G.eqL (congrArg (fun z => [some (vR 79), some (vI x), some (vI (z)), some (vI ((k : Int) + (-1))), none, none]) ?_) ih
      rw [fx_s hk, if_neg (by rw [Bool.and_eq_true, Bool.and_eq_true, decide_eq_true_eq, decide_eq_true_eq]; rintro ⟨⟨q1, q2⟩, q3⟩; have q4 := b2_1.mpr q1; omega)]
    · skip
      refine g_aload_n (i := 0) (pc := 28) dX4_firstToMarry_28 rfl rfl ?_
      refine g_iload (pc := 29) dX4_firstToMarry_29 rfl ?_
      refine g_iload (pc := 31) dX4_firstToMarry_31 rfl ?_
      refine g_v2 (pc := 33) okV_X4_whyNoMarriage rfl l_X4_195 dX4_firstToMarry_33 (c_79) hc_4 (by decide) (by decide) (Nat.le_of_ble_eq_true rfl) (t_X4_whyNoMarriage hi (by omega) (by omega)) rfl ?_
      simp only [Option.toList, List.cons_append, List.nil_append]
      have bb := wn_rng (n_st ν) (((k / 4 : Nat) : Int)) (((k % 4 : Nat) : Int))
      refine g_z_ne (tgt := 55) (pc := 36) dX4_firstToMarry_36 (by omega) (by decide) (fun c36 => ?_) (fun c36 => ?_)
      · skip
        refine g_iload_n (i := 2) (pc := 55) dX4_firstToMarry_55 rfl rfl ?_
        refine g_istore_n (i := 2) (pc := 56) dX4_firstToMarry_56 rfl (by decide) rfl ?_
        simp only [List.set_cons_succ, List.set_cons_zero]
        refine g_iinc (pc := 57) dX4_firstToMarry_57 rfl (by decide) rfl ?_
        simp only [List.set_cons_succ, List.set_cons_zero]
        refine g_goto (tgt := 5) (pc := 60) dX4_firstToMarry_60 (by decide) ?_
        refine G.drop 5 ?_
        refine G.drop 4 ?_
        simp only [List.set_cons_succ, List.set_cons_zero]
        refine G.eqL (congrArg (fun z => [some (vR 79), some (vI x), some (vI (z)), some (vI ((k : Int) + (-1))), none, none]) ?_) ih
        rw [fx_s hk, if_neg (by rw [Bool.and_eq_true, Bool.and_eq_true, decide_eq_true_eq, decide_eq_true_eq]; rintro ⟨⟨q1, q2⟩, q3⟩; have q4 := b2_1.mpr q1; omega)]
      · skip
        refine g_aload_n (i := 0) (pc := 39) dX4_firstToMarry_39 rfl rfl ?_
        refine g_iload (pc := 40) dX4_firstToMarry_40 rfl ?_
        refine g_iload (pc := 42) dX4_firstToMarry_42 rfl ?_
        refine g_v2 (pc := 44) okV_X4_isInPlace rfl l_X4_106 dX4_firstToMarry_44 (c_79) hc_4 (by decide) (by decide) (Nat.le_of_ble_eq_true rfl) (t_X4_isInPlace hi (by omega) (by omega)) rfl ?_
        simp only [Option.toList, List.cons_append, List.nil_append]
        have bb := b2_rng (ip (n_st ν) (((k / 4 : Nat) : Int)) (((k % 4 : Nat) : Int)))
        refine g_iload_n (i := 1) (pc := 47) dX4_firstToMarry_47 rfl rfl ?_
        refine g_c_ne (tgt := 55) (pc := 48) dX4_firstToMarry_48 (by omega) (by decide) (fun c48 => ?_) (fun c48 => ?_)
        · skip
          refine g_iload_n (i := 2) (pc := 55) dX4_firstToMarry_55 rfl rfl ?_
          refine g_istore_n (i := 2) (pc := 56) dX4_firstToMarry_56 rfl (by decide) rfl ?_
          simp only [List.set_cons_succ, List.set_cons_zero]
          refine g_iinc (pc := 57) dX4_firstToMarry_57 rfl (by decide) rfl ?_
          simp only [List.set_cons_succ, List.set_cons_zero]
          refine g_goto (tgt := 5) (pc := 60) dX4_firstToMarry_60 (by decide) ?_
          refine G.drop 5 ?_
          refine G.drop 4 ?_
          simp only [List.set_cons_succ, List.set_cons_zero]
          refine G.eqL (congrArg (fun z => [some (vR 79), some (vI x), some (vI (z)), some (vI ((k : Int) + (-1))), none, none]) ?_) ih
          rw [fx_s hk, if_neg (by rw [Bool.and_eq_true, Bool.and_eq_true, decide_eq_true_eq, decide_eq_true_eq]; rintro ⟨⟨q1, q2⟩, q3⟩; have q4 := b2_1.mpr q1; omega)]
        · skip
          refine g_iload_n (i := 3) (pc := 51) dX4_firstToMarry_51 rfl rfl ?_
          refine g_goto (tgt := 56) (pc := 52) dX4_firstToMarry_52 (by decide) ?_
          refine g_istore_n (i := 2) (pc := 56) dX4_firstToMarry_56 rfl (by decide) rfl ?_
          simp only [List.set_cons_succ, List.set_cons_zero]
          refine g_iinc (pc := 57) dX4_firstToMarry_57 rfl (by decide) rfl ?_
          simp only [List.set_cons_succ, List.set_cons_zero]
          refine g_goto (tgt := 5) (pc := 60) dX4_firstToMarry_60 (by decide) ?_
          refine G.drop 5 ?_
          refine G.drop 4 ?_
          simp only [List.set_cons_succ, List.set_cons_zero]
          refine G.eqL (congrArg (fun z => [some (vR 79), some (vI x), some (vI (z)), some (vI ((k : Int) + (-1))), none, none]) ?_) ih
          rw [fx_s hk, if_pos (by rw [Bool.and_eq_true, Bool.and_eq_true, decide_eq_true_eq, decide_eq_true_eq]; exact ⟨⟨b2_1.mp (by omega), by omega⟩, by omega⟩)]
set_option maxRecDepth 20000 in
set_option maxHeartbeats 300000 in
theorem t_X4_marriages {κ : KT} {ν : NT} {o : Nat → Int} {al : Bool} (hN : NInv ν) : GM M_X4_marriages al [vR 79] (cW κ (dE ν) o) 0 0 (dt (some (vI (cmv (n_st ν)))) (cW κ (dE (n_setth (n_setke ν (n_st ν)) 0)) o)) := by
  show G _ none _ _ 0 [some (vR 79), none, none] [] _ _ _ _
  have hi := hN.1
  have hr := hN.2.1
  refine g_aload_n (i := 0) (pc := 0) dX4_marriages_0 rfl rfl ?_
  refine g_iconst (pc := 1) dX4_marriages_1 ?_
  refine g_put (pc := 2) ft_X4_34 dX4_marriages_2 (c_79) (Nat.le_of_ble_eq_true rfl) (fun _ => rfl) (fun _ => rfl) (fun h => nomatch h) ?_
  refine G.eqw v_th ?_
  refine g_aload_n (i := 0) (pc := 5) dX4_marriages_5 rfl rfl ?_
  refine g_getf (pc := 6) f_X4_7 dX4_marriages_6 (c_79) rfl ?_
  refine g_iconst (pc := 9) dX4_marriages_9 ?_
  refine g_aload_n (i := 0) (pc := 10) dX4_marriages_10 rfl rfl ?_
  refine g_getf (pc := 11) f_X4_13 dX4_marriages_11 (c_79) rfl ?_
  refine g_iconst (pc := 14) dX4_marriages_14 ?_
  refine g_s4 (pc := 15) okS_X4_copy rfl l_X4_172 dX4_marriages_15 (by decide) (by decide) (Nat.le_of_ble_eq_true rfl) (t_X4_copy (f := 0) (t := 0) c_80 c_81 (by decide) ⟨by omega, by omega⟩ ⟨by omega, by omega⟩) (List.length_set ..) ?_
  refine G.eqw (w' := cW κ (dE (n_setke (n_setth (ν) (0)) (n_st ν))) o) (by exact (congrArg (fun z => (cW κ (dE (n_setth (ν) (0))) o).set 81 (cArr 0 121 z)) (cp_ss (n_st ν) (n_ke ν))).trans v_ke) ?_
  refine g_iconst (pc := 18) dX4_marriages_18 ?_
  refine g_istore_n (i := 1) (pc := 19) dX4_marriages_19 rfl (by decide) rfl ?_
  simp only [List.set_cons_succ, List.set_cons_zero]
  refine g_iconst (pc := 20) dX4_marriages_20 ?_
  refine g_istore_n (i := 2) (pc := 21) dX4_marriages_21 rfl (by decide) rfl ?_
  simp only [List.set_cons_succ, List.set_cons_zero]
  have hi9 := hi
  refine lp_up (P := fun k => (∀ j : Nat, j < k → nxt (itm (n_st ν) j) ≠ -1) → ∀ z : Int, (-2147483648 ≤ z ∧ z < 2147483648) → z ≠ -1 → G M_X4_marriages none al al 22 [some (vR 79), some (vI k), some (vI z)] [] (cW κ (dE (n_setst (n_setke (n_setth (ν) (0)) (n_st ν)) (itm (n_st ν) k))) o) 0 0 (dt (some (vI (cmv (n_st ν)))) (cW κ (dE (n_setth (n_setke ν (n_st ν)) 0)) o))) 17 ?_ ?_ 0 (Nat.zero_le _) (fun j hj => absurd hj (Nat.not_lt_zero j)) 0 (by decide) (by decide)
  · intro hH
    exfalso
    have h1 := nbg_itm 17 hH
    have h2 := nbg_rng (n_st ν)
    have h3 := nbg_rng (itm (n_st ν) 17)
    omega
  · intro k hk ih hH z hz hz1
    have hi := inv_itm hi9 k
    show G _ _ _ _ _ _ _ _ _ _ _
    refine g_iload_n (i := 2) (pc := 22) dX4_marriages_22 rfl rfl ?_
    refine g_iconst (pc := 23) dX4_marriages_23 ?_
    refine g_c_eq (tgt := 70) (pc := 24) dX4_marriages_24 (by omega) (by decide) (fun c24 => absurd c24 (by omega)) (fun c24 => ?_)
    refine g_aload_n (i := 0) (pc := 27) dX4_marriages_27 rfl rfl ?_
    refine g_iconst (pc := 28) dX4_marriages_28 ?_
    refine g_v1 (pc := 29) okV_X4_firstToMarry rfl l_X4_204 dX4_marriages_29 (c_79) hc_4 (by decide) (by decide) (Nat.le_of_ble_eq_true rfl) (t_X4_firstToMarry (ν := n_setst (n_setke (n_setth (ν) (0)) (n_st ν)) (itm (n_st ν) k)) hi (by decide)) rfl ?_
    simp only [Option.toList, List.cons_append, List.nil_append]
    refine G.eqS (v' := vI (mi1 (itm (n_st ν) k))) (congrArg (fun z => vI z) (mi_1 _)) ?_
    have bb := mi1_rng (itm (n_st ν) k)
    refine g_istore_n (i := 2) (pc := 32) dX4_marriages_32 rfl (by decide) rfl ?_
    simp only [List.set_cons_succ, List.set_cons_zero]
    refine g_iload_n (i := 2) (pc := 33) dX4_marriages_33 rfl rfl ?_
    refine g_iconst (pc := 34) dX4_marriages_34 ?_
    refine g_c_ne (tgt := 46) (pc := 35) dX4_marriages_35 (by omega) (by decide) (fun c35 => ?_) (fun c35 => ?_)
    · skip
      refine g_iload_n (i := 2) (pc := 46) dX4_marriages_46 rfl rfl ?_
      refine g_istore_n (i := 2) (pc := 47) dX4_marriages_47 rfl (by decide) rfl ?_
      simp only [List.set_cons_succ, List.set_cons_zero]
      refine g_iload_n (i := 2) (pc := 48) dX4_marriages_48 rfl rfl ?_
      refine g_iconst (pc := 49) dX4_marriages_49 ?_
      refine g_c_eq (tgt := 22) (pc := 50) dX4_marriages_50 (by omega) (by decide) (fun c50 => absurd c50 (by omega)) (fun c50 => ?_)
      have h_n : nxt (itm (n_st ν) k) = (mi1 (itm (n_st ν) k)) := by unfold nxt; rw [if_neg (by omega)]
      have h_nz : nxt (itm (n_st ν) k) ≠ -1 := by omega
      have h_ok := nxt_ok (σ := itm (n_st ν) k) h_nz
      rw [h_n] at h_ok
      have h_gr : hasGr (itm (n_st ν) k) ((mi1 (itm (n_st ν) k)) / 4) ((mi1 (itm (n_st ν) k)) % 4) = true := by
        unfold hasGr hasP
        rw [Bool.and_eq_true, decide_eq_true_eq, decide_eq_true_eq]
        exact ⟨h_ok.1, h_ok.2.1⟩
      have h_w := h_ok.2.2
      refine g_aload_n (i := 0) (pc := 53) dX4_marriages_53 rfl rfl ?_
      refine g_iload_n (i := 2) (pc := 54) dX4_marriages_54 rfl rfl ?_
      refine g_iconst (pc := 55) dX4_marriages_55 ?_
      refine g_idiv (pc := 56) dX4_marriages_56 (by omega) (by omega) ?_
      refine G.eqS (congrArg (fun z => vI z) (show _ = ((mi1 (itm (n_st ν) k)) / 4) from Int.tdiv_eq_ediv_of_nonneg (by omega))) ?_
      refine g_iload_n (i := 2) (pc := 57) dX4_marriages_57 rfl rfl ?_
      refine g_iconst (pc := 58) dX4_marriages_58 ?_
      refine g_irem (pc := 59) dX4_marriages_59 (by omega) (by omega) ?_
      refine G.eqS (congrArg (fun z => vI z) (show _ = ((mi1 (itm (n_st ν) k)) % 4) from Int.tmod_eq_emod_of_nonneg (by omega))) ?_
      refine g_v2 (pc := 60) okV_X4_married rfl l_X4_198 dX4_marriages_60 (c_79) hc_4 (by decide) (by decide) (Nat.le_of_ble_eq_true rfl) (t_X4_married (ν := n_setst (n_setke (n_setth (ν) (0)) (n_st ν)) (itm (n_st ν) k)) hi h_gr h_w) (by rw [c_len, c_len]) ?_
      simp only [Option.toList, List.cons_append, List.nil_append]
      refine G.eqS (v' := vI (if ip (itm (n_st ν) k) (((mi1 (itm (n_st ν) k)) / 4)) (((mi1 (itm (n_st ν) k)) % 4)) = true then 0 else 4)) rfl ?_
      refine g_pop (pc := 63) dX4_marriages_63 (fun z h => nomatch h) ?_
      refine g_iinc (pc := 64) dX4_marriages_64 rfl (by decide) rfl ?_
      simp only [List.set_cons_succ, List.set_cons_zero]
      refine g_goto (tgt := 22) (pc := 67) dX4_marriages_67 (by decide) ?_
      refine G.eqw (w' := cW κ (dE (n_setst (n_setke (n_setth (ν) (0)) (n_st ν)) (itm (n_st ν) (k + 1)))) o) (Eq.trans (b := cW κ (dE (n_setst (n_setke (n_setth (ν) (0)) (n_st ν)) (s_mar (itm (n_st ν) k) ((mi1 (itm (n_st ν) k)) / 4) ((mi1 (itm (n_st ν) k)) % 4)))) o) rfl (congrArg (fun z => cW κ (dE (n_setst (n_setke (n_setth (ν) (0)) (n_st ν)) z)) o) ?_)) (ih (fun j hj => ?_) _ (by omega) (by omega))
      · show _ = dn (itm (n_st ν) k)
        unfold dn
        rw [if_pos h_nz, h_n]
      · rcases Nat.lt_or_ge j k with q | q
        · exact hH j q
        · rw [show j = k by omega]
          exact h_nz
    · skip
      refine g_aload_n (i := 0) (pc := 38) dX4_marriages_38 rfl rfl ?_
      refine g_iconst (pc := 39) dX4_marriages_39 ?_
      refine g_v1 (pc := 40) okV_X4_firstToMarry rfl l_X4_204 dX4_marriages_40 (c_79) hc_4 (by decide) (by decide) (Nat.le_of_ble_eq_true rfl) (t_X4_firstToMarry (ν := n_setst (n_setke (n_setth (ν) (0)) (n_st ν)) (itm (n_st ν) k)) hi (by decide)) rfl ?_
      simp only [Option.toList, List.cons_append, List.nil_append]
      refine G.eqS (v' := vI (mi0 (itm (n_st ν) k))) (congrArg (fun z => vI z) (mi_0 _)) ?_
      have bb := mi0_rng (itm (n_st ν) k)
      refine g_goto (tgt := 47) (pc := 43) dX4_marriages_43 (by decide) ?_
      refine g_istore_n (i := 2) (pc := 47) dX4_marriages_47 rfl (by decide) rfl ?_
      simp only [List.set_cons_succ, List.set_cons_zero]
      refine g_iload_n (i := 2) (pc := 48) dX4_marriages_48 rfl rfl ?_
      refine g_iconst (pc := 49) dX4_marriages_49 ?_
      refine g_c_eq (tgt := 22) (pc := 50) dX4_marriages_50 (by omega) (by decide) (fun c50 => ?_) (fun c50 => ?_)
      · skip
        have h_n : nxt (itm (n_st ν) k) = -1 := by unfold nxt; rw [if_pos (by omega)]; omega
        refine G.eqL (L' := [some (vR 79), some (vI k), some (vI (-1))]) (by rw [show (mi0 (itm (n_st ν) k)) = -1 by omega]) ?_
        refine g_iload_n (i := 2) (pc := 22) dX4_marriages_22 rfl rfl ?_
        refine g_iconst (pc := 23) dX4_marriages_23 ?_
        refine g_c_eq (tgt := 70) (pc := 24) dX4_marriages_24 (by omega) (by decide) (fun c24 => ?_) (fun c24 => absurd c24 (by omega))
        refine g_aload_n (i := 0) (pc := 70) dX4_marriages_70 rfl rfl ?_
        refine g_getf (pc := 71) f_X4_13 dX4_marriages_71 (c_79) rfl ?_
        refine g_iconst (pc := 74) dX4_marriages_74 ?_
        refine g_aload_n (i := 0) (pc := 75) dX4_marriages_75 rfl rfl ?_
        refine g_getf (pc := 76) f_X4_7 dX4_marriages_76 (c_79) rfl ?_
        refine g_iconst (pc := 79) dX4_marriages_79 ?_
        refine g_s4 (pc := 80) okS_X4_copy rfl l_X4_172 dX4_marriages_80 (by decide) (by decide) (Nat.le_of_ble_eq_true rfl) (t_X4_copy (f := 0) (t := 0) c_81 c_80 (by decide) ⟨by omega, by omega⟩ ⟨by omega, by omega⟩) (List.length_set ..) ?_
        refine G.eqw (w' := cW κ (dE (n_setst (n_setst (n_setke (n_setth (ν) (0)) (n_st ν)) (itm (n_st ν) k)) (n_st ν))) o) (by exact cpk_ke ((n_ke_st _ _).trans (n_ke_ke _ _))) ?_
        refine g_iload_n (i := 1) (pc := 83) dX4_marriages_83 rfl rfl ?_
        refine g_iret (pc := 84) rfl dX4_marriages_84 (fun h => h) ?_
        exact dt_i (cmv_at (by omega) h_n hH).symm (nw rfl)
      · skip
        have h_n : nxt (itm (n_st ν) k) = (mi0 (itm (n_st ν) k)) := by unfold nxt; rw [if_pos (by omega)]
        have h_nz : nxt (itm (n_st ν) k) ≠ -1 := by omega
        have h_ok := nxt_ok (σ := itm (n_st ν) k) h_nz
        rw [h_n] at h_ok
        have h_gr : hasGr (itm (n_st ν) k) ((mi0 (itm (n_st ν) k)) / 4) ((mi0 (itm (n_st ν) k)) % 4) = true := by
          unfold hasGr hasP
          rw [Bool.and_eq_true, decide_eq_true_eq, decide_eq_true_eq]
          exact ⟨h_ok.1, h_ok.2.1⟩
        have h_w := h_ok.2.2
        refine g_aload_n (i := 0) (pc := 53) dX4_marriages_53 rfl rfl ?_
        refine g_iload_n (i := 2) (pc := 54) dX4_marriages_54 rfl rfl ?_
        refine g_iconst (pc := 55) dX4_marriages_55 ?_
        refine g_idiv (pc := 56) dX4_marriages_56 (by omega) (by omega) ?_
        refine G.eqS (congrArg (fun z => vI z) (show _ = ((mi0 (itm (n_st ν) k)) / 4) from Int.tdiv_eq_ediv_of_nonneg (by omega))) ?_
        refine g_iload_n (i := 2) (pc := 57) dX4_marriages_57 rfl rfl ?_
        refine g_iconst (pc := 58) dX4_marriages_58 ?_
        refine g_irem (pc := 59) dX4_marriages_59 (by omega) (by omega) ?_
        refine G.eqS (congrArg (fun z => vI z) (show _ = ((mi0 (itm (n_st ν) k)) % 4) from Int.tmod_eq_emod_of_nonneg (by omega))) ?_
        refine g_v2 (pc := 60) okV_X4_married rfl l_X4_198 dX4_marriages_60 (c_79) hc_4 (by decide) (by decide) (Nat.le_of_ble_eq_true rfl) (t_X4_married (ν := n_setst (n_setke (n_setth (ν) (0)) (n_st ν)) (itm (n_st ν) k)) hi h_gr h_w) (by rw [c_len, c_len]) ?_
        simp only [Option.toList, List.cons_append, List.nil_append]
        refine G.eqS (v' := vI (if ip (itm (n_st ν) k) (((mi0 (itm (n_st ν) k)) / 4)) (((mi0 (itm (n_st ν) k)) % 4)) = true then 0 else 4)) rfl ?_
        refine g_pop (pc := 63) dX4_marriages_63 (fun z h => nomatch h) ?_
        refine g_iinc (pc := 64) dX4_marriages_64 rfl (by decide) rfl ?_
        simp only [List.set_cons_succ, List.set_cons_zero]
        refine g_goto (tgt := 22) (pc := 67) dX4_marriages_67 (by decide) ?_
        refine G.eqw (w' := cW κ (dE (n_setst (n_setke (n_setth (ν) (0)) (n_st ν)) (itm (n_st ν) (k + 1)))) o) (Eq.trans (b := cW κ (dE (n_setst (n_setke (n_setth (ν) (0)) (n_st ν)) (s_mar (itm (n_st ν) k) ((mi0 (itm (n_st ν) k)) / 4) ((mi0 (itm (n_st ν) k)) % 4)))) o) rfl (congrArg (fun z => cW κ (dE (n_setst (n_setke (n_setth (ν) (0)) (n_st ν)) z)) o) ?_)) (ih (fun j hj => ?_) _ (by omega) (by omega))
        · show _ = dn (itm (n_st ν) k)
          unfold dn
          rw [if_pos h_nz, h_n]
        · rcases Nat.lt_or_ge j k with q | q
          · exact hH j q
          · rw [show j = k by omega]
            exact h_nz
set_option maxRecDepth 20000 in
set_option maxHeartbeats 300000 in
theorem t_X4_mostFree {κ : KT} {ν : NT} {o : Nat → Int} {al : Bool} (hN : NInv ν) : GM M_X4_mostFree al [vR 79] (cW κ (dE ν) o) 0 0 (dt (some (vI (nff (s_pre (n_st ν) 32)))) (cW κ (dE (n_setth (n_setke ν (n_st ν)) 0)) o)) := by
  show G _ none _ _ 0 [some (vR 79), none] [] _ _ _ _
  have hi := hN.1
  have hr := hN.2.1
  refine g_aload_n (i := 0) (pc := 0) dX4_mostFree_0 rfl rfl ?_
  refine g_iconst (pc := 1) dX4_mostFree_1 ?_
  refine g_put (pc := 2) ft_X4_34 dX4_mostFree_2 (c_79) (Nat.le_of_ble_eq_true rfl) (fun _ => rfl) (fun _ => rfl) (fun h => nomatch h) ?_
  refine G.eqw v_th ?_
  refine g_aload_n (i := 0) (pc := 5) dX4_mostFree_5 rfl rfl ?_
  refine g_getf (pc := 6) f_X4_7 dX4_mostFree_6 (c_79) rfl ?_
  refine g_iconst (pc := 9) dX4_mostFree_9 ?_
  refine g_aload_n (i := 0) (pc := 10) dX4_mostFree_10 rfl rfl ?_
  refine g_getf (pc := 11) f_X4_13 dX4_mostFree_11 (c_79) rfl ?_
  refine g_iconst (pc := 14) dX4_mostFree_14 ?_
  refine g_s4 (pc := 15) okS_X4_copy rfl l_X4_172 dX4_mostFree_15 (by decide) (by decide) (Nat.le_of_ble_eq_true rfl) (t_X4_copy (f := 0) (t := 0) c_80 c_81 (by decide) ⟨by omega, by omega⟩ ⟨by omega, by omega⟩) (List.length_set ..) ?_
  refine G.eqw (w' := cW κ (dE (n_setke (n_setth (ν) (0)) (n_st ν))) o) (by exact (congrArg (fun z => (cW κ (dE (n_setth (ν) (0))) o).set 81 (cArr 0 121 z)) (cp_ss (n_st ν) (n_ke ν))).trans v_ke) ?_
  refine g_aload_n (i := 0) (pc := 18) dX4_mostFree_18 rfl rfl ?_
  refine g_bipush (pc := 19) dX4_mostFree_19 (by decide) ?_
  refine g_v1 (pc := 21) okV_X4_pressed rfl l_X4_201 dX4_mostFree_21 (c_79) hc_4 (by decide) (by decide) (Nat.le_of_ble_eq_true rfl) (t_X4_pressed (ν := n_setke (n_setth (ν) (0)) (n_st ν)) hi (by omega)) (by rw [c_len, c_len]) ?_
  simp only [Option.toList, List.cons_append, List.nil_append]
  refine G.eqS (v' := vI (nff (s_pre (n_st ν) (32)))) rfl ?_
  have bb := nff_rng (s_pre (n_st ν) (32))
  refine g_istore_n (i := 1) (pc := 24) dX4_mostFree_24 rfl (by decide) rfl ?_
  simp only [List.set_cons_succ, List.set_cons_zero]
  refine g_aload_n (i := 0) (pc := 25) dX4_mostFree_25 rfl rfl ?_
  refine g_getf (pc := 26) f_X4_13 dX4_mostFree_26 (c_79) rfl ?_
  refine g_iconst (pc := 29) dX4_mostFree_29 ?_
  refine g_aload_n (i := 0) (pc := 30) dX4_mostFree_30 rfl rfl ?_
  refine g_getf (pc := 31) f_X4_7 dX4_mostFree_31 (c_79) rfl ?_
  refine g_iconst (pc := 34) dX4_mostFree_34 ?_
  refine g_s4 (pc := 35) okS_X4_copy rfl l_X4_172 dX4_mostFree_35 (by decide) (by decide) (Nat.le_of_ble_eq_true rfl) (t_X4_copy (f := 0) (t := 0) c_81 c_80 (by decide) ⟨by omega, by omega⟩ ⟨by omega, by omega⟩) (List.length_set ..) ?_
  refine G.eqw (w' := cW κ (dE (n_setst (n_setst (n_setke (n_setth (ν) (0)) (n_st ν)) (s_pre (n_st ν) (32))) (n_st ν))) o) (by exact cpk_ke ((n_ke_st _ _).trans (n_ke_ke _ _))) ?_
  refine g_iload_n (i := 1) (pc := 38) dX4_mostFree_38 rfl rfl ?_
  refine g_iret (pc := 39) rfl dX4_mostFree_39 (fun h => h) ?_
  exact dt_i rfl (nw rfl)
set_option maxRecDepth 20000 in
set_option maxHeartbeats 300000 in
theorem t_X4_writable {κ : KT} {ν : NT} {o : Nat → Int} {al : Bool} (hN : NInv ν) {p : Int} (h_p : -2147483648 ≤ p ∧ p < 2147483648) : GM M_X4_writable al [vR 79, vI p] (cW κ (dE ν) o) 0 0 (dt (some (vI (nV (xc_wa (n_st ν) p) (cwv (n_st ν) p)))) (cW κ (dE (nR ν (xc_wa (n_st ν) p) (n_setke ν (n_st ν)))) o)) := by
  show G _ none _ _ 0 [some (vR 79), some (vI p), none] [] _ _ _ _
  have hi := hN.1
  have hr := hN.2.1
  refine g_aload_n (i := 0) (pc := 0) dX4_writable_0 rfl rfl ?_
  refine g_aload_n (i := 0) (pc := 1) dX4_writable_1 rfl rfl ?_
  refine g_iload_n (i := 1) (pc := 2) dX4_writable_2 rfl rfl ?_
  refine g_v1 (pc := 3) okV_X4_isProcess rfl l_X4_42 dX4_writable_3 (c_79) hc_4 (by decide) (by decide) (Nat.le_of_ble_eq_true rfl) (t_X4_isProcess (ν := ν) hi (by omega)) rfl ?_
  simp only [Option.toList, List.cons_append, List.nil_append]
  have bb := b2_rng (hasP (n_st ν) (p))
  refine g_z_eq (tgt := 13) (pc := 6) dX4_writable_6 (by omega) (by decide) (fun c6 => ?_) (fun c6 => ?_)
  · skip
    refine g_iconst (pc := 13) dX4_writable_13 ?_
    refine g_put (pc := 14) ft_X4_34 dX4_writable_14 (c_79) (Nat.le_of_ble_eq_true rfl) (fun _ => rfl) (fun _ => rfl) (fun h => nomatch h) ?_
    refine G.eqw v_th ?_
    refine g_aload_n (i := 0) (pc := 17) dX4_writable_17 rfl rfl ?_
    refine g_getf (pc := 18) f_X4_34 dX4_writable_18 (c_79) rfl ?_
    refine G.eqS (v' := vI (1)) rfl ?_
    refine g_z_le (tgt := 26) (pc := 21) dX4_writable_21 (by omega) (by decide) (fun c21 => absurd c21 (by omega)) (fun c21 => ?_)
    refine g_iconst (pc := 24) dX4_writable_24 ?_
    refine g_iret (pc := 25) rfl dX4_writable_25 (fun h => h) ?_
    exact df_1 (k := 1) (by unfold xc_wa; rw [if_neg (b2_0.mp (by omega))]) (by decide) (nw rfl)
  · skip
    have h_hp := b2_1.mp (show b2 (hasP (n_st ν) p) = 1 by omega)
    refine g_iconst (pc := 9) dX4_writable_9 ?_
    refine g_goto (tgt := 14) (pc := 10) dX4_writable_10 (by decide) ?_
    refine g_put (pc := 14) ft_X4_34 dX4_writable_14 (c_79) (Nat.le_of_ble_eq_true rfl) (fun _ => rfl) (fun _ => rfl) (fun h => nomatch h) ?_
    refine G.eqw v_th ?_
    refine g_aload_n (i := 0) (pc := 17) dX4_writable_17 rfl rfl ?_
    refine g_getf (pc := 18) f_X4_34 dX4_writable_18 (c_79) rfl ?_
    refine G.eqS (v' := vI (0)) rfl ?_
    refine g_z_le (tgt := 26) (pc := 21) dX4_writable_21 (by omega) (by decide) (fun c21 => ?_) (fun c21 => absurd c21 (by omega))
    refine g_aload_n (i := 0) (pc := 26) dX4_writable_26 rfl rfl ?_
    refine g_getf (pc := 27) f_X4_7 dX4_writable_27 (c_79) rfl ?_
    refine g_iconst (pc := 30) dX4_writable_30 ?_
    refine g_aload_n (i := 0) (pc := 31) dX4_writable_31 rfl rfl ?_
    refine g_getf (pc := 32) f_X4_13 dX4_writable_32 (c_79) rfl ?_
    refine g_iconst (pc := 35) dX4_writable_35 ?_
    refine g_s4 (pc := 36) okS_X4_copy rfl l_X4_172 dX4_writable_36 (by decide) (by decide) (Nat.le_of_ble_eq_true rfl) (t_X4_copy (f := 0) (t := 0) c_80 c_81 (by decide) ⟨by omega, by omega⟩ ⟨by omega, by omega⟩) (List.length_set ..) ?_
    refine G.eqw (w' := cW κ (dE (n_setke (n_setth (ν) (0)) (n_st ν))) o) (by exact (congrArg (fun z => (cW κ (dE (n_setth (ν) (0))) o).set 81 (cArr 0 121 z)) (cp_ss (n_st ν) (n_ke ν))).trans v_ke) ?_
    refine g_iconst (pc := 39) dX4_writable_39 ?_
    refine g_istore_n (i := 2) (pc := 40) dX4_writable_40 rfl (by decide) rfl ?_
    simp only [List.set_cons_succ, List.set_cons_zero]
    have hi9 := hi
    refine lp_up (P := fun k => (∀ j : Nat, j < k → oc (itw (n_st ν) p j) p j ≠ -1) → G M_X4_writable none al al 41 [some (vR 79), some (vI p), some (vI k)] [] (cW κ (dE (n_setst (n_setke (n_setth (ν) (0)) (n_st ν)) (itw (n_st ν) p k))) o) 0 0 (dt (some (vI (nV (xc_wa (n_st ν) p) (cwv (n_st ν) p)))) (cW κ (dE (nR ν (xc_wa (n_st ν) p) (n_setke ν (n_st ν)))) o))) 16 ?_ ?_ 0 (Nat.zero_le _) (fun j hj => absurd hj (Nat.not_lt_zero j))
    · intro hH
      show G _ _ _ _ _ _ _ _ _ _ _
      refine g_iload_n (i := 2) (pc := 41) dX4_writable_41 rfl rfl ?_
      refine g_bipush (pc := 42) dX4_writable_42 (by decide) ?_
      refine g_c_ge (tgt := 71) (pc := 44) dX4_writable_44 (by omega) (by decide) (fun c44 => ?_) (fun c44 => absurd c44 (by omega))
      refine g_aload_n (i := 0) (pc := 71) dX4_writable_71 rfl rfl ?_
      refine g_getf (pc := 72) f_X4_13 dX4_writable_72 (c_79) rfl ?_
      refine g_iconst (pc := 75) dX4_writable_75 ?_
      refine g_aload_n (i := 0) (pc := 76) dX4_writable_76 rfl rfl ?_
      refine g_getf (pc := 77) f_X4_7 dX4_writable_77 (c_79) rfl ?_
      refine g_iconst (pc := 80) dX4_writable_80 ?_
      refine g_s4 (pc := 81) okS_X4_copy rfl l_X4_172 dX4_writable_81 (by decide) (by decide) (Nat.le_of_ble_eq_true rfl) (t_X4_copy (f := 0) (t := 0) c_81 c_80 (by decide) ⟨by omega, by omega⟩ ⟨by omega, by omega⟩) (List.length_set ..) ?_
      refine G.eqw (w' := cW κ (dE (n_setst (n_setst (n_setke (n_setth (ν) (0)) (n_st ν)) (itw (n_st ν) p 16)) (n_st ν))) o) (by exact cpk_ke ((n_ke_st _ _).trans (n_ke_ke _ _))) ?_
      refine g_iload_n (i := 2) (pc := 84) dX4_writable_84 rfl rfl ?_
      refine g_iret (pc := 85) rfl dX4_writable_85 (fun h => h) ?_
      exact df_0 (by unfold xc_wa; rw [if_pos (b2_1.mp (by omega))]) ((cwv_16 hH).symm) (nw rfl)
    · intro k hk ih hH
      have hi := inv_itw hi9 p k
      show G _ _ _ _ _ _ _ _ _ _ _
      refine g_iload_n (i := 2) (pc := 41) dX4_writable_41 rfl rfl ?_
      refine g_bipush (pc := 42) dX4_writable_42 (by decide) ?_
      refine g_c_ge (tgt := 71) (pc := 44) dX4_writable_44 (by omega) (by decide) (fun c44 => absurd c44 (by omega)) (fun c44 => ?_)
      have h_pg := itw_pg h_hp hk
      refine g_aload_n (i := 0) (pc := 47) dX4_writable_47 rfl rfl ?_
      refine g_iload_n (i := 1) (pc := 48) dX4_writable_48 rfl rfl ?_
      refine g_iload_n (i := 2) (pc := 49) dX4_writable_49 rfl rfl ?_
      refine g_v2 (pc := 50) okV_X4_outcome rfl l_X4_90 dX4_writable_50 (c_79) hc_4 (by decide) (by decide) (Nat.le_of_ble_eq_true rfl) (t_X4_outcome (ν := n_setst (n_setke (n_setth (ν) (0)) (n_st ν)) (itw (n_st ν) p k)) hi (by first | assumption | exact h_pg)) rfl ?_
      simp only [Option.toList, List.cons_append, List.nil_append]
      refine G.eqS (v' := vI (oc (itw (n_st ν) p k) (p) ((k : Int)))) rfl ?_
      have bb := oc_rng (itw (n_st ν) p k) (p) ((k : Int))
      refine g_iconst (pc := 53) dX4_writable_53 ?_
      refine g_c_eq (tgt := 71) (pc := 54) dX4_writable_54 (by omega) (by decide) (fun c54 => ?_) (fun c54 => ?_)
      · skip
        refine g_aload_n (i := 0) (pc := 71) dX4_writable_71 rfl rfl ?_
        refine g_getf (pc := 72) f_X4_13 dX4_writable_72 (c_79) rfl ?_
        refine g_iconst (pc := 75) dX4_writable_75 ?_
        refine g_aload_n (i := 0) (pc := 76) dX4_writable_76 rfl rfl ?_
        refine g_getf (pc := 77) f_X4_7 dX4_writable_77 (c_79) rfl ?_
        refine g_iconst (pc := 80) dX4_writable_80 ?_
        refine g_s4 (pc := 81) okS_X4_copy rfl l_X4_172 dX4_writable_81 (by decide) (by decide) (Nat.le_of_ble_eq_true rfl) (t_X4_copy (f := 0) (t := 0) c_81 c_80 (by decide) ⟨by omega, by omega⟩ ⟨by omega, by omega⟩) (List.length_set ..) ?_
        refine G.eqw (w' := cW κ (dE (n_setst (n_setst (n_setke (n_setth (ν) (0)) (n_st ν)) (itw (n_st ν) p k)) (n_st ν))) o) (by exact cpk_ke ((n_ke_st _ _).trans (n_ke_ke _ _))) ?_
        refine g_iload_n (i := 2) (pc := 84) dX4_writable_84 rfl rfl ?_
        refine g_iret (pc := 85) rfl dX4_writable_85 (fun h => h) ?_
        exact df_0 (by unfold xc_wa; rw [if_pos (b2_1.mp (by omega))]) ((cwv_at hk (by omega) hH).symm) (nw rfl)
      · skip
        have h_o : oc (itw (n_st ν) p k) p k ≠ -1 := by omega
        have h_x : (0 : Int) ≤ 1 ∧ (1 : Int) < 100 := by decide
        refine g_aload_n (i := 0) (pc := 57) dX4_writable_57 rfl rfl ?_
        refine g_iload_n (i := 1) (pc := 58) dX4_writable_58 rfl rfl ?_
        refine g_iload_n (i := 2) (pc := 59) dX4_writable_59 rfl rfl ?_
        refine g_iconst (pc := 60) dX4_writable_60 ?_
        refine g_v3 (pc := 61) okV_X4_written rfl l_X4_179 dX4_writable_61 (c_79) hc_4 (by decide) (by decide) (Nat.le_of_ble_eq_true rfl) (t_X4_written (ν := n_setst (n_setke (n_setth (ν) (0)) (n_st ν)) (itw (n_st ν) p k)) hi h_pg h_o h_x) (by rw [c_len, c_len]) ?_
        simp only [Option.toList, List.cons_append, List.nil_append]
        refine G.eqS (v' := vI (oc (itw (n_st ν) p k) (p) ((k : Int)))) rfl ?_
        have bb := oc_rng (itw (n_st ν) p k) (p) ((k : Int))
        refine g_pop (pc := 64) dX4_writable_64 (fun z h => nomatch h) ?_
        refine g_iinc (pc := 65) dX4_writable_65 rfl (by decide) rfl ?_
        simp only [List.set_cons_succ, List.set_cons_zero]
        refine g_goto (tgt := 41) (pc := 68) dX4_writable_68 (by decide) ?_
        refine G.eqw (w' := cW κ (dE (n_setst (n_setke (n_setth (ν) (0)) (n_st ν)) (itw (n_st ν) p (k + 1)))) o) (Eq.trans (b := cW κ (dE (n_setst (n_setke (n_setth (ν) (0)) (n_st ν)) (s_wri (itw (n_st ν) p k) p k 1))) o) rfl (congrArg (fun z => cW κ (dE (n_setst (n_setke (n_setth (ν) (0)) (n_st ν)) z)) o) (dw1 h_o).symm)) (ih (fun j hj => ?_))
        rcases Nat.lt_or_ge j k with q | q
        · exact hH j q
        · rw [show j = k by omega]
          exact h_o
set_option maxRecDepth 20000 in
set_option maxHeartbeats 300000 in
theorem t_X4_runScript {κ : KT} {ν : NT} {o : Nat → Int} {al : Bool} (hN : NInv ν) {n s : Int} (h_n : -2147483648 ≤ n ∧ n < 2147483648) (h_s : -9223372036854775808 ≤ s ∧ s < 9223372036854775808) : GM M_X4_runScript al [vR 79, vI n, vL s] (cW κ (dE ν) o) 0 0 (dt (some (vI (nV (xc_ru n s) (ruv (n_st ν) n s)))) (cW κ (dE (nR ν (xc_ru n s) (n_setsk ν (n_st ν)))) o)) := by
  show G _ none _ _ 0 [some (vR 79), some (vI n), some (vL s), none, none, none, none, none, none, none] [] _ _ _ _
  have hi := hN.1
  have hr := hN.2.1
  refine g_iload_n (i := 1) (pc := 0) dX4_runScript_0 rfl rfl ?_
  refine g_iconst (pc := 1) dX4_runScript_1 ?_
  refine g_c_ne (tgt := 11) (pc := 2) dX4_runScript_2 (by omega) (by decide) (fun c2 => ?_) (fun c2 => ?_)
  · skip
    refine g_iload_n (i := 1) (pc := 11) dX4_runScript_11 rfl rfl ?_
    refine g_iconst (pc := 12) dX4_runScript_12 ?_
    refine g_c_ne (tgt := 22) (pc := 13) dX4_runScript_13 (by omega) (by decide) (fun c13 => ?_) (fun c13 => ?_)
    · skip
      refine g_ldc2 (n := 1000000000000000) (pc := 22) co_X4_221 dX4_runScript_22 rfl ?_
      refine g_lstore (pc := 25) dX4_runScript_25 (by decide) rfl ?_
      simp only [List.set_cons_succ, List.set_cons_zero]
      refine g_aload_n (i := 0) (pc := 27) dX4_runScript_27 rfl rfl ?_
      refine g_iload_n (i := 1) (pc := 28) dX4_runScript_28 rfl rfl ?_
      refine g_iconst (pc := 29) dX4_runScript_29 ?_
      refine g_c_lt (tgt := 51) (pc := 30) dX4_runScript_30 (by omega) (by decide) (fun c30 => ?_) (fun c30 => ?_)
      · skip
        refine g_iconst (pc := 51) dX4_runScript_51 ?_
        refine g_goto (tgt := 56) (pc := 52) dX4_runScript_52 (by decide) ?_
        refine g_put (pc := 56) ft_X4_34 dX4_runScript_56 (c_79) (Nat.le_of_ble_eq_true rfl) (fun _ => rfl) (fun _ => rfl) (fun h => nomatch h) ?_
        refine G.eqw v_th ?_
        refine g_aload_n (i := 0) (pc := 59) dX4_runScript_59 rfl rfl ?_
        refine g_getf (pc := 60) f_X4_34 dX4_runScript_60 (c_79) rfl ?_
        refine G.eqS (v' := vI (1)) rfl ?_
        refine g_z_le (tgt := 68) (pc := 63) dX4_runScript_63 (by omega) (by decide) (fun c63 => absurd c63 (by omega)) (fun c63 => ?_)
        refine g_iconst (pc := 66) dX4_runScript_66 ?_
        refine g_iret (pc := 67) rfl dX4_runScript_67 (fun h => h) ?_
        exact df_1 (k := 1) (ru_1 (by omega)) (by decide) (nw rfl)
      · skip
        refine g_iload_n (i := 1) (pc := 33) dX4_runScript_33 rfl rfl ?_
        refine g_iconst (pc := 34) dX4_runScript_34 ?_
        refine g_c_gt (tgt := 51) (pc := 35) dX4_runScript_35 (by omega) (by decide) (fun c35 => ?_) (fun c35 => ?_)
        · skip
          refine g_iconst (pc := 51) dX4_runScript_51 ?_
          refine g_goto (tgt := 56) (pc := 52) dX4_runScript_52 (by decide) ?_
          refine g_put (pc := 56) ft_X4_34 dX4_runScript_56 (c_79) (Nat.le_of_ble_eq_true rfl) (fun _ => rfl) (fun _ => rfl) (fun h => nomatch h) ?_
          refine G.eqw v_th ?_
          refine g_aload_n (i := 0) (pc := 59) dX4_runScript_59 rfl rfl ?_
          refine g_getf (pc := 60) f_X4_34 dX4_runScript_60 (c_79) rfl ?_
          refine G.eqS (v' := vI (1)) rfl ?_
          refine g_z_le (tgt := 68) (pc := 63) dX4_runScript_63 (by omega) (by decide) (fun c63 => absurd c63 (by omega)) (fun c63 => ?_)
          refine g_iconst (pc := 66) dX4_runScript_66 ?_
          refine g_iret (pc := 67) rfl dX4_runScript_67 (fun h => h) ?_
          exact df_1 (k := 1) (ru_1 (by omega)) (by decide) (nw rfl)
        · skip
          refine g_lload_n (i := 2) (pc := 38) dX4_runScript_38 rfl rfl ?_
          refine g_lconst (z := 0) (pc := 39) dX4_runScript_39 rfl ?_
          refine g_lcmp (y := 0) (pc := 40) dX4_runScript_40 (by omega) (by decide) ?_
          have k40 := b_cmp_s s 0
          refine g_z_lt (tgt := 51) (pc := 41) dX4_runScript_41 (by omega) (by decide) (fun c41 => ?_) (fun c41 => ?_)
          · skip
            refine g_iconst (pc := 51) dX4_runScript_51 ?_
            refine g_goto (tgt := 56) (pc := 52) dX4_runScript_52 (by decide) ?_
            refine g_put (pc := 56) ft_X4_34 dX4_runScript_56 (c_79) (Nat.le_of_ble_eq_true rfl) (fun _ => rfl) (fun _ => rfl) (fun h => nomatch h) ?_
            refine G.eqw v_th ?_
            refine g_aload_n (i := 0) (pc := 59) dX4_runScript_59 rfl rfl ?_
            refine g_getf (pc := 60) f_X4_34 dX4_runScript_60 (c_79) rfl ?_
            refine G.eqS (v' := vI (1)) rfl ?_
            refine g_z_le (tgt := 68) (pc := 63) dX4_runScript_63 (by omega) (by decide) (fun c63 => absurd c63 (by omega)) (fun c63 => ?_)
            refine g_iconst (pc := 66) dX4_runScript_66 ?_
            refine g_iret (pc := 67) rfl dX4_runScript_67 (fun h => h) ?_
            exact df_1 (k := 1) (ru_1 (by omega)) (by decide) (nw rfl)
          · skip
            refine g_lload_n (i := 2) (pc := 44) dX4_runScript_44 rfl rfl ?_
            refine g_lload (pc := 45) dX4_runScript_45 rfl ?_
            have hb9 : bnd n = 1000000000000000 := by unfold bnd; first | (rw [if_pos (by omega)]; done) | (rw [if_neg (by omega), if_pos (by omega)]; done) | rw [if_neg (by omega), if_neg (by omega)]
            have k47 := b_cmp_s s 1000000000000000
            refine g_lcmp (pc := 47) dX4_runScript_47 (by omega) (by decide) ?_
            refine g_z_lt (tgt := 55) (pc := 48) dX4_runScript_48 (by omega) (by decide) (fun c48 => ?_) (fun c48 => ?_)
            · skip
              refine g_iconst (pc := 55) dX4_runScript_55 ?_
              refine g_put (pc := 56) ft_X4_34 dX4_runScript_56 (c_79) (Nat.le_of_ble_eq_true rfl) (fun _ => rfl) (fun _ => rfl) (fun h => nomatch h) ?_
              refine G.eqw v_th ?_
              refine g_aload_n (i := 0) (pc := 59) dX4_runScript_59 rfl rfl ?_
              refine g_getf (pc := 60) f_X4_34 dX4_runScript_60 (c_79) rfl ?_
              refine G.eqS (v' := vI (0)) rfl ?_
              refine g_z_le (tgt := 68) (pc := 63) dX4_runScript_63 (by omega) (by decide) (fun c63 => ?_) (fun c63 => absurd c63 (by omega))
              refine g_aload_n (i := 0) (pc := 68) dX4_runScript_68 rfl rfl ?_
              refine g_getf (pc := 69) f_X4_7 dX4_runScript_69 (c_79) rfl ?_
              refine g_iconst (pc := 72) dX4_runScript_72 ?_
              refine g_aload_n (i := 0) (pc := 73) dX4_runScript_73 rfl rfl ?_
              refine g_getf (pc := 74) f_X4_16 dX4_runScript_74 (c_79) rfl ?_
              refine g_iconst (pc := 77) dX4_runScript_77 ?_
              refine g_s4 (pc := 78) okS_X4_copy rfl l_X4_172 dX4_runScript_78 (by decide) (by decide) (Nat.le_of_ble_eq_true rfl) (t_X4_copy (f := 0) (t := 0) c_80 c_82 (by decide) ⟨by omega, by omega⟩ ⟨by omega, by omega⟩) (List.length_set ..) ?_
              refine G.eqw (w' := cW κ (dE (n_setsk (n_setth (ν) (0)) (n_st ν))) o) (by exact (congrArg (fun z => (cW κ (dE (n_setth (ν) (0))) o).set 82 (cArr 0 121 z)) (cp_ss (n_st ν) (n_sk ν))).trans v_sk) ?_
              refine g_iconst (pc := 81) dX4_runScript_81 ?_
              refine g_istore (pc := 82) dX4_runScript_82 (by decide) rfl ?_
              simp only [List.set_cons_succ, List.set_cons_zero]
              refine g_lload (pc := 84) dX4_runScript_84 rfl ?_
              refine g_ldc2 (n := 100000) (pc := 86) co_X4_217 dX4_runScript_86 rfl ?_
              refine g_ldiv (pc := 89) dX4_runScript_89 (by decide) (by decide) ?_
              refine G.eqS (v' := vL (gq n 0)) (congrArg (fun z => vL z) (show _ = gq n 0 by unfold gq; first | (rw [if_pos (by omega)]; decide) | (rw [if_neg (by omega), if_pos (by omega)]; decide) | (rw [if_neg (by omega), if_neg (by omega), if_pos (by omega)]; decide))) ?_
              refine g_lstore (pc := 90) dX4_runScript_90 (by decide) rfl ?_
              simp only [List.set_cons_succ, List.set_cons_zero]
              refine g_iconst (pc := 92) dX4_runScript_92 ?_
              refine g_istore (pc := 93) dX4_runScript_93 (by decide) rfl ?_
              simp only [List.set_cons_succ, List.set_cons_zero]
              have hi9 := hi
              refine G.drop 4 ?_
              simp only [List.set_cons_succ, List.set_cons_zero]
              refine lp_up (P := fun k => (∀ j : Nat, j < k → ¬ (!(cV (itr (n_st ν) n s j) (cmd n s j))) = true) → G M_X4_runScript none al al 95 [some (vR 79), some (vI n), some (vL s), none, none, none, some (vI (-1)), some (vL (gq n k)), none, some (vI k)] [] (cW κ (dE (n_setst (n_setsk (n_setth (ν) (0)) (n_st ν)) (itr (n_st ν) n s k))) o) 0 0 (dt (some (vI (nV (xc_ru n s) (ruv (n_st ν) n s)))) (cW κ (dE (nR ν (xc_ru n s) (n_setsk ν (n_st ν)))) o))) n.toNat ?_ ?_ 0 (Nat.zero_le _) (fun j hj => absurd hj (Nat.not_lt_zero j))
              · intro hH
                show G _ _ _ _ _ _ _ _ _ _ _
                refine g_iload (pc := 95) dX4_runScript_95 rfl ?_
                refine g_iload_n (i := 1) (pc := 97) dX4_runScript_97 rfl rfl ?_
                refine g_c_ge (tgt := 145) (pc := 98) dX4_runScript_98 (by omega) (by decide) (fun c98 => ?_) (fun c98 => absurd c98 (by omega))
                refine g_aload_n (i := 0) (pc := 145) dX4_runScript_145 rfl rfl ?_
                refine g_getf (pc := 146) f_X4_16 dX4_runScript_146 (c_79) rfl ?_
                refine g_iconst (pc := 149) dX4_runScript_149 ?_
                refine g_aload_n (i := 0) (pc := 150) dX4_runScript_150 rfl rfl ?_
                refine g_getf (pc := 151) f_X4_7 dX4_runScript_151 (c_79) rfl ?_
                refine g_iconst (pc := 154) dX4_runScript_154 ?_
                refine g_s4 (pc := 155) okS_X4_copy rfl l_X4_172 dX4_runScript_155 (by decide) (by decide) (Nat.le_of_ble_eq_true rfl) (t_X4_copy (f := 0) (t := 0) c_82 c_80 (by decide) ⟨by omega, by omega⟩ ⟨by omega, by omega⟩) (List.length_set ..) ?_
                refine G.eqw (w' := cW κ (dE (n_setst (n_setst (n_setsk (n_setth (ν) (0)) (n_st ν)) (itr (n_st ν) n s n.toNat)) (n_st ν))) o) (by exact cpk_sk ((n_sk_st _ _).trans (n_sk_sk _ _))) ?_
                refine g_iload (pc := 158) dX4_runScript_158 rfl ?_
                refine g_iret (pc := 160) rfl dX4_runScript_160 (fun h => h) ?_
                exact df_0 (ru_0 (by omega) (by omega)) (ff_none hH).symm (nw rfl)
              · intro k hk ih hH
                have hi := inv_itr hi9 n s k
                have hg9 := gq_rng (n := n) (k := k) (by omega) (by omega)
                show G _ _ _ _ _ _ _ _ _ _ _
                refine g_iload (pc := 95) dX4_runScript_95 rfl ?_
                refine g_iload_n (i := 1) (pc := 97) dX4_runScript_97 rfl rfl ?_
                refine g_c_ge (tgt := 145) (pc := 98) dX4_runScript_98 (by omega) (by decide) (fun c98 => absurd c98 (by omega)) (fun c98 => ?_)
                refine g_iload (pc := 101) dX4_runScript_101 rfl ?_
                refine g_iconst (pc := 103) dX4_runScript_103 ?_
                refine g_c_ne (tgt := 145) (pc := 104) dX4_runScript_104 (by omega) (by decide) (fun c104 => absurd c104 (by omega)) (fun c104 => ?_)
                refine g_aload_n (i := 0) (pc := 107) dX4_runScript_107 rfl rfl ?_
                refine g_lload_n (i := 2) (pc := 108) dX4_runScript_108 rfl rfl ?_
                refine g_lload (pc := 109) dX4_runScript_109 rfl ?_
                refine g_ldiv (pc := 111) dX4_runScript_111 (by omega) (by omega) ?_
                refine g_ldc2 (n := 100000) (pc := 112) co_X4_217 dX4_runScript_112 rfl ?_
                have h9c := cmd_at (n := n) (s := s) (k := k) (by omega) (by omega) (by omega)
                refine g_lrem (pc := 115) dX4_runScript_115 ?_ (by decide) ?_
                · have h8 := wl_rng (s := s) (by omega) (n - 1 - k).toNat
                  have h7 : Int.tdiv s (gq n k) ≤ s ∧ 0 ≤ Int.tdiv s (gq n k) := by
                    rw [Int.tdiv_eq_ediv_of_nonneg (by omega)]
                    exact ⟨Int.ediv_le_self _ (by omega), Int.ediv_nonneg (by omega) (by omega)⟩
                  omega
                refine G.eqS (congrArg (fun z => vL z) h9c) ?_
                refine g_l2i (pc := 116) dX4_runScript_116 ?_
                refine g_v1 (pc := 117) okV_X4_commands rfl l_X4_223 dX4_runScript_117 (c_79) hc_4 (by decide) (by decide) (Nat.le_of_ble_eq_true rfl) (t_X4_commands (ν := n_setst (n_setsk (n_setth (ν) (0)) (n_st ν)) (itr (n_st ν) n s k)) hi (d := cmd n s k) (by unfold cmd; omega)) (by rw [c_len, c_len]) ?_
                simp only [Option.toList, List.cons_append, List.nil_append]
                refine G.eqw (w' := cW κ (dE (n_setst (n_setsk (n_setth (ν) (0)) (n_st ν)) (itr (n_st ν) n s (k + 1)))) o) rfl ?_
                refine G.eqS (v' := vI (b2 (cV (itr (n_st ν) n s k) (cmd n s k)))) rfl ?_
                have bb := b2_rng (cV (itr (n_st ν) n s k) (cmd n s k))
                refine g_z_eq (tgt := 127) (pc := 120) dX4_runScript_120 (by omega) (by decide) (fun c120 => ?_) (fun c120 => ?_)
                · skip
                  refine g_iload (pc := 127) dX4_runScript_127 rfl ?_
                  refine g_istore (pc := 129) dX4_runScript_129 (by decide) rfl ?_
                  simp only [List.set_cons_succ, List.set_cons_zero]
                  refine g_lload (pc := 131) dX4_runScript_131 rfl ?_
                  refine g_ldc2 (n := 100000) (pc := 133) co_X4_217 dX4_runScript_133 rfl ?_
                  refine g_ldiv (pc := 136) dX4_runScript_136 (by omega) (by decide) ?_
                  refine G.eqS (congrArg (fun z => vL z) (gq_s (n := n) (k := k) (by omega) (by omega))) ?_
                  refine g_lstore (pc := 137) dX4_runScript_137 (by decide) rfl ?_
                  simp only [List.set_cons_succ, List.set_cons_zero]
                  refine g_iinc (pc := 139) dX4_runScript_139 rfl (by decide) rfl ?_
                  simp only [List.set_cons_succ, List.set_cons_zero]
                  refine g_goto (tgt := 95) (pc := 142) dX4_runScript_142 (by decide) ?_
                  refine g_iload (pc := 95) dX4_runScript_95 rfl ?_
                  refine g_iload_n (i := 1) (pc := 97) dX4_runScript_97 rfl rfl ?_
                  refine g_c_ge (tgt := 145) (pc := 98) dX4_runScript_98 (by omega) (by decide) (fun c98 => ?_) (fun c98 => ?_)
                  · skip
                    refine g_aload_n (i := 0) (pc := 145) dX4_runScript_145 rfl rfl ?_
                    refine g_getf (pc := 146) f_X4_16 dX4_runScript_146 (c_79) rfl ?_
                    refine g_iconst (pc := 149) dX4_runScript_149 ?_
                    refine g_aload_n (i := 0) (pc := 150) dX4_runScript_150 rfl rfl ?_
                    refine g_getf (pc := 151) f_X4_7 dX4_runScript_151 (c_79) rfl ?_
                    refine g_iconst (pc := 154) dX4_runScript_154 ?_
                    refine g_s4 (pc := 155) okS_X4_copy rfl l_X4_172 dX4_runScript_155 (by decide) (by decide) (Nat.le_of_ble_eq_true rfl) (t_X4_copy (f := 0) (t := 0) c_82 c_80 (by decide) ⟨by omega, by omega⟩ ⟨by omega, by omega⟩) (List.length_set ..) ?_
                    refine G.eqw (w' := cW κ (dE (n_setst (n_setst (n_setsk (n_setth (ν) (0)) (n_st ν)) (itr (n_st ν) n s (k + 1))) (n_st ν))) o) (by exact cpk_sk ((n_sk_st _ _).trans (n_sk_sk _ _))) ?_
                    refine g_iload (pc := 158) dX4_runScript_158 rfl ?_
                    refine g_iret (pc := 160) rfl dX4_runScript_160 (fun h => h) ?_
                    exact df_0 (ru_0 (by omega) (by omega)) (ff_some (by rw [Bool.not_eq_true', Bool.eq_false_iff]; exact b2_0.mp (by omega)) hH hk).symm (nw rfl)
                  · skip
                    refine g_iload (pc := 101) dX4_runScript_101 rfl ?_
                    refine g_iconst (pc := 103) dX4_runScript_103 ?_
                    refine g_c_ne (tgt := 145) (pc := 104) dX4_runScript_104 (by omega) (by decide) (fun c104 => ?_) (fun c104 => absurd c104 (by omega))
                    refine g_aload_n (i := 0) (pc := 145) dX4_runScript_145 rfl rfl ?_
                    refine g_getf (pc := 146) f_X4_16 dX4_runScript_146 (c_79) rfl ?_
                    refine g_iconst (pc := 149) dX4_runScript_149 ?_
                    refine g_aload_n (i := 0) (pc := 150) dX4_runScript_150 rfl rfl ?_
                    refine g_getf (pc := 151) f_X4_7 dX4_runScript_151 (c_79) rfl ?_
                    refine g_iconst (pc := 154) dX4_runScript_154 ?_
                    refine g_s4 (pc := 155) okS_X4_copy rfl l_X4_172 dX4_runScript_155 (by decide) (by decide) (Nat.le_of_ble_eq_true rfl) (t_X4_copy (f := 0) (t := 0) c_82 c_80 (by decide) ⟨by omega, by omega⟩ ⟨by omega, by omega⟩) (List.length_set ..) ?_
                    refine G.eqw (w' := cW κ (dE (n_setst (n_setst (n_setsk (n_setth (ν) (0)) (n_st ν)) (itr (n_st ν) n s (k + 1))) (n_st ν))) o) (by exact cpk_sk ((n_sk_st _ _).trans (n_sk_sk _ _))) ?_
                    refine g_iload (pc := 158) dX4_runScript_158 rfl ?_
                    refine g_iret (pc := 160) rfl dX4_runScript_160 (fun h => h) ?_
                    exact df_0 (ru_0 (by omega) (by omega)) (ff_some (by rw [Bool.not_eq_true', Bool.eq_false_iff]; exact b2_0.mp (by omega)) hH hk).symm (nw rfl)
                · skip
                  refine g_iconst (pc := 123) dX4_runScript_123 ?_
                  refine g_goto (tgt := 129) (pc := 124) dX4_runScript_124 (by decide) ?_
                  refine g_istore (pc := 129) dX4_runScript_129 (by decide) rfl ?_
                  simp only [List.set_cons_succ, List.set_cons_zero]
                  refine g_lload (pc := 131) dX4_runScript_131 rfl ?_
                  refine g_ldc2 (n := 100000) (pc := 133) co_X4_217 dX4_runScript_133 rfl ?_
                  refine g_ldiv (pc := 136) dX4_runScript_136 (by omega) (by decide) ?_
                  refine G.eqS (congrArg (fun z => vL z) (gq_s (n := n) (k := k) (by omega) (by omega))) ?_
                  refine g_lstore (pc := 137) dX4_runScript_137 (by decide) rfl ?_
                  simp only [List.set_cons_succ, List.set_cons_zero]
                  refine g_iinc (pc := 139) dX4_runScript_139 rfl (by decide) rfl ?_
                  simp only [List.set_cons_succ, List.set_cons_zero]
                  refine g_goto (tgt := 95) (pc := 142) dX4_runScript_142 (by decide) ?_
                  refine ih (fun j hj => ?_)
                  rcases Nat.lt_or_ge j k with q | q
                  · exact hH j q
                  · rw [show j = k by omega, b2_1.mp (show b2 (cV (itr (n_st ν) n s k) (cmd n s k)) = 1 by omega)]
                    decide
            · skip
              refine g_iconst (pc := 51) dX4_runScript_51 ?_
              refine g_goto (tgt := 56) (pc := 52) dX4_runScript_52 (by decide) ?_
              refine g_put (pc := 56) ft_X4_34 dX4_runScript_56 (c_79) (Nat.le_of_ble_eq_true rfl) (fun _ => rfl) (fun _ => rfl) (fun h => nomatch h) ?_
              refine G.eqw v_th ?_
              refine g_aload_n (i := 0) (pc := 59) dX4_runScript_59 rfl rfl ?_
              refine g_getf (pc := 60) f_X4_34 dX4_runScript_60 (c_79) rfl ?_
              refine G.eqS (v' := vI (1)) rfl ?_
              refine g_z_le (tgt := 68) (pc := 63) dX4_runScript_63 (by omega) (by decide) (fun c63 => absurd c63 (by omega)) (fun c63 => ?_)
              refine g_iconst (pc := 66) dX4_runScript_66 ?_
              refine g_iret (pc := 67) rfl dX4_runScript_67 (fun h => h) ?_
              exact df_1 (k := 1) (ru_1 (by omega)) (by decide) (nw rfl)
    · skip
      refine g_ldc2 (n := 10000000000) (pc := 16) co_X4_219 dX4_runScript_16 rfl ?_
      refine g_goto (tgt := 25) (pc := 19) dX4_runScript_19 (by decide) ?_
      refine g_lstore (pc := 25) dX4_runScript_25 (by decide) rfl ?_
      simp only [List.set_cons_succ, List.set_cons_zero]
      refine g_aload_n (i := 0) (pc := 27) dX4_runScript_27 rfl rfl ?_
      refine g_iload_n (i := 1) (pc := 28) dX4_runScript_28 rfl rfl ?_
      refine g_iconst (pc := 29) dX4_runScript_29 ?_
      refine g_c_lt (tgt := 51) (pc := 30) dX4_runScript_30 (by omega) (by decide) (fun c30 => absurd c30 (by omega)) (fun c30 => ?_)
      refine g_iload_n (i := 1) (pc := 33) dX4_runScript_33 rfl rfl ?_
      refine g_iconst (pc := 34) dX4_runScript_34 ?_
      refine g_c_gt (tgt := 51) (pc := 35) dX4_runScript_35 (by omega) (by decide) (fun c35 => absurd c35 (by omega)) (fun c35 => ?_)
      refine g_lload_n (i := 2) (pc := 38) dX4_runScript_38 rfl rfl ?_
      refine g_lconst (z := 0) (pc := 39) dX4_runScript_39 rfl ?_
      refine g_lcmp (y := 0) (pc := 40) dX4_runScript_40 (by omega) (by decide) ?_
      have k40 := b_cmp_s s 0
      refine g_z_lt (tgt := 51) (pc := 41) dX4_runScript_41 (by omega) (by decide) (fun c41 => ?_) (fun c41 => ?_)
      · skip
        refine g_iconst (pc := 51) dX4_runScript_51 ?_
        refine g_goto (tgt := 56) (pc := 52) dX4_runScript_52 (by decide) ?_
        refine g_put (pc := 56) ft_X4_34 dX4_runScript_56 (c_79) (Nat.le_of_ble_eq_true rfl) (fun _ => rfl) (fun _ => rfl) (fun h => nomatch h) ?_
        refine G.eqw v_th ?_
        refine g_aload_n (i := 0) (pc := 59) dX4_runScript_59 rfl rfl ?_
        refine g_getf (pc := 60) f_X4_34 dX4_runScript_60 (c_79) rfl ?_
        refine G.eqS (v' := vI (1)) rfl ?_
        refine g_z_le (tgt := 68) (pc := 63) dX4_runScript_63 (by omega) (by decide) (fun c63 => absurd c63 (by omega)) (fun c63 => ?_)
        refine g_iconst (pc := 66) dX4_runScript_66 ?_
        refine g_iret (pc := 67) rfl dX4_runScript_67 (fun h => h) ?_
        exact df_1 (k := 1) (ru_1 (by omega)) (by decide) (nw rfl)
      · skip
        refine g_lload_n (i := 2) (pc := 44) dX4_runScript_44 rfl rfl ?_
        refine g_lload (pc := 45) dX4_runScript_45 rfl ?_
        have hb9 : bnd n = 10000000000 := by unfold bnd; first | (rw [if_pos (by omega)]; done) | (rw [if_neg (by omega), if_pos (by omega)]; done) | rw [if_neg (by omega), if_neg (by omega)]
        have k47 := b_cmp_s s 10000000000
        refine g_lcmp (pc := 47) dX4_runScript_47 (by omega) (by decide) ?_
        refine g_z_lt (tgt := 55) (pc := 48) dX4_runScript_48 (by omega) (by decide) (fun c48 => ?_) (fun c48 => ?_)
        · skip
          refine g_iconst (pc := 55) dX4_runScript_55 ?_
          refine g_put (pc := 56) ft_X4_34 dX4_runScript_56 (c_79) (Nat.le_of_ble_eq_true rfl) (fun _ => rfl) (fun _ => rfl) (fun h => nomatch h) ?_
          refine G.eqw v_th ?_
          refine g_aload_n (i := 0) (pc := 59) dX4_runScript_59 rfl rfl ?_
          refine g_getf (pc := 60) f_X4_34 dX4_runScript_60 (c_79) rfl ?_
          refine G.eqS (v' := vI (0)) rfl ?_
          refine g_z_le (tgt := 68) (pc := 63) dX4_runScript_63 (by omega) (by decide) (fun c63 => ?_) (fun c63 => absurd c63 (by omega))
          refine g_aload_n (i := 0) (pc := 68) dX4_runScript_68 rfl rfl ?_
          refine g_getf (pc := 69) f_X4_7 dX4_runScript_69 (c_79) rfl ?_
          refine g_iconst (pc := 72) dX4_runScript_72 ?_
          refine g_aload_n (i := 0) (pc := 73) dX4_runScript_73 rfl rfl ?_
          refine g_getf (pc := 74) f_X4_16 dX4_runScript_74 (c_79) rfl ?_
          refine g_iconst (pc := 77) dX4_runScript_77 ?_
          refine g_s4 (pc := 78) okS_X4_copy rfl l_X4_172 dX4_runScript_78 (by decide) (by decide) (Nat.le_of_ble_eq_true rfl) (t_X4_copy (f := 0) (t := 0) c_80 c_82 (by decide) ⟨by omega, by omega⟩ ⟨by omega, by omega⟩) (List.length_set ..) ?_
          refine G.eqw (w' := cW κ (dE (n_setsk (n_setth (ν) (0)) (n_st ν))) o) (by exact (congrArg (fun z => (cW κ (dE (n_setth (ν) (0))) o).set 82 (cArr 0 121 z)) (cp_ss (n_st ν) (n_sk ν))).trans v_sk) ?_
          refine g_iconst (pc := 81) dX4_runScript_81 ?_
          refine g_istore (pc := 82) dX4_runScript_82 (by decide) rfl ?_
          simp only [List.set_cons_succ, List.set_cons_zero]
          refine g_lload (pc := 84) dX4_runScript_84 rfl ?_
          refine g_ldc2 (n := 100000) (pc := 86) co_X4_217 dX4_runScript_86 rfl ?_
          refine g_ldiv (pc := 89) dX4_runScript_89 (by decide) (by decide) ?_
          refine G.eqS (v' := vL (gq n 0)) (congrArg (fun z => vL z) (show _ = gq n 0 by unfold gq; first | (rw [if_pos (by omega)]; decide) | (rw [if_neg (by omega), if_pos (by omega)]; decide) | (rw [if_neg (by omega), if_neg (by omega), if_pos (by omega)]; decide))) ?_
          refine g_lstore (pc := 90) dX4_runScript_90 (by decide) rfl ?_
          simp only [List.set_cons_succ, List.set_cons_zero]
          refine g_iconst (pc := 92) dX4_runScript_92 ?_
          refine g_istore (pc := 93) dX4_runScript_93 (by decide) rfl ?_
          simp only [List.set_cons_succ, List.set_cons_zero]
          have hi9 := hi
          refine G.drop 4 ?_
          simp only [List.set_cons_succ, List.set_cons_zero]
          refine lp_up (P := fun k => (∀ j : Nat, j < k → ¬ (!(cV (itr (n_st ν) n s j) (cmd n s j))) = true) → G M_X4_runScript none al al 95 [some (vR 79), some (vI n), some (vL s), none, none, none, some (vI (-1)), some (vL (gq n k)), none, some (vI k)] [] (cW κ (dE (n_setst (n_setsk (n_setth (ν) (0)) (n_st ν)) (itr (n_st ν) n s k))) o) 0 0 (dt (some (vI (nV (xc_ru n s) (ruv (n_st ν) n s)))) (cW κ (dE (nR ν (xc_ru n s) (n_setsk ν (n_st ν)))) o))) n.toNat ?_ ?_ 0 (Nat.zero_le _) (fun j hj => absurd hj (Nat.not_lt_zero j))
          · intro hH
            show G _ _ _ _ _ _ _ _ _ _ _
            refine g_iload (pc := 95) dX4_runScript_95 rfl ?_
            refine g_iload_n (i := 1) (pc := 97) dX4_runScript_97 rfl rfl ?_
            refine g_c_ge (tgt := 145) (pc := 98) dX4_runScript_98 (by omega) (by decide) (fun c98 => ?_) (fun c98 => absurd c98 (by omega))
            refine g_aload_n (i := 0) (pc := 145) dX4_runScript_145 rfl rfl ?_
            refine g_getf (pc := 146) f_X4_16 dX4_runScript_146 (c_79) rfl ?_
            refine g_iconst (pc := 149) dX4_runScript_149 ?_
            refine g_aload_n (i := 0) (pc := 150) dX4_runScript_150 rfl rfl ?_
            refine g_getf (pc := 151) f_X4_7 dX4_runScript_151 (c_79) rfl ?_
            refine g_iconst (pc := 154) dX4_runScript_154 ?_
            refine g_s4 (pc := 155) okS_X4_copy rfl l_X4_172 dX4_runScript_155 (by decide) (by decide) (Nat.le_of_ble_eq_true rfl) (t_X4_copy (f := 0) (t := 0) c_82 c_80 (by decide) ⟨by omega, by omega⟩ ⟨by omega, by omega⟩) (List.length_set ..) ?_
            refine G.eqw (w' := cW κ (dE (n_setst (n_setst (n_setsk (n_setth (ν) (0)) (n_st ν)) (itr (n_st ν) n s n.toNat)) (n_st ν))) o) (by exact cpk_sk ((n_sk_st _ _).trans (n_sk_sk _ _))) ?_
            refine g_iload (pc := 158) dX4_runScript_158 rfl ?_
            refine g_iret (pc := 160) rfl dX4_runScript_160 (fun h => h) ?_
            exact df_0 (ru_0 (by omega) (by omega)) (ff_none hH).symm (nw rfl)
          · intro k hk ih hH
            have hi := inv_itr hi9 n s k
            have hg9 := gq_rng (n := n) (k := k) (by omega) (by omega)
            show G _ _ _ _ _ _ _ _ _ _ _
            refine g_iload (pc := 95) dX4_runScript_95 rfl ?_
            refine g_iload_n (i := 1) (pc := 97) dX4_runScript_97 rfl rfl ?_
            refine g_c_ge (tgt := 145) (pc := 98) dX4_runScript_98 (by omega) (by decide) (fun c98 => absurd c98 (by omega)) (fun c98 => ?_)
            refine g_iload (pc := 101) dX4_runScript_101 rfl ?_
            refine g_iconst (pc := 103) dX4_runScript_103 ?_
            refine g_c_ne (tgt := 145) (pc := 104) dX4_runScript_104 (by omega) (by decide) (fun c104 => absurd c104 (by omega)) (fun c104 => ?_)
            refine g_aload_n (i := 0) (pc := 107) dX4_runScript_107 rfl rfl ?_
            refine g_lload_n (i := 2) (pc := 108) dX4_runScript_108 rfl rfl ?_
            refine g_lload (pc := 109) dX4_runScript_109 rfl ?_
            refine g_ldiv (pc := 111) dX4_runScript_111 (by omega) (by omega) ?_
            refine g_ldc2 (n := 100000) (pc := 112) co_X4_217 dX4_runScript_112 rfl ?_
            have h9c := cmd_at (n := n) (s := s) (k := k) (by omega) (by omega) (by omega)
            refine g_lrem (pc := 115) dX4_runScript_115 ?_ (by decide) ?_
            · have h8 := wl_rng (s := s) (by omega) (n - 1 - k).toNat
              have h7 : Int.tdiv s (gq n k) ≤ s ∧ 0 ≤ Int.tdiv s (gq n k) := by
                rw [Int.tdiv_eq_ediv_of_nonneg (by omega)]
                exact ⟨Int.ediv_le_self _ (by omega), Int.ediv_nonneg (by omega) (by omega)⟩
              omega
            refine G.eqS (congrArg (fun z => vL z) h9c) ?_
            refine g_l2i (pc := 116) dX4_runScript_116 ?_
            refine g_v1 (pc := 117) okV_X4_commands rfl l_X4_223 dX4_runScript_117 (c_79) hc_4 (by decide) (by decide) (Nat.le_of_ble_eq_true rfl) (t_X4_commands (ν := n_setst (n_setsk (n_setth (ν) (0)) (n_st ν)) (itr (n_st ν) n s k)) hi (d := cmd n s k) (by unfold cmd; omega)) (by rw [c_len, c_len]) ?_
            simp only [Option.toList, List.cons_append, List.nil_append]
            refine G.eqw (w' := cW κ (dE (n_setst (n_setsk (n_setth (ν) (0)) (n_st ν)) (itr (n_st ν) n s (k + 1)))) o) rfl ?_
            refine G.eqS (v' := vI (b2 (cV (itr (n_st ν) n s k) (cmd n s k)))) rfl ?_
            have bb := b2_rng (cV (itr (n_st ν) n s k) (cmd n s k))
            refine g_z_eq (tgt := 127) (pc := 120) dX4_runScript_120 (by omega) (by decide) (fun c120 => ?_) (fun c120 => ?_)
            · skip
              refine g_iload (pc := 127) dX4_runScript_127 rfl ?_
              refine g_istore (pc := 129) dX4_runScript_129 (by decide) rfl ?_
              simp only [List.set_cons_succ, List.set_cons_zero]
              refine g_lload (pc := 131) dX4_runScript_131 rfl ?_
              refine g_ldc2 (n := 100000) (pc := 133) co_X4_217 dX4_runScript_133 rfl ?_
              refine g_ldiv (pc := 136) dX4_runScript_136 (by omega) (by decide) ?_
              refine G.eqS (congrArg (fun z => vL z) (gq_s (n := n) (k := k) (by omega) (by omega))) ?_
              refine g_lstore (pc := 137) dX4_runScript_137 (by decide) rfl ?_
              simp only [List.set_cons_succ, List.set_cons_zero]
              refine g_iinc (pc := 139) dX4_runScript_139 rfl (by decide) rfl ?_
              simp only [List.set_cons_succ, List.set_cons_zero]
              refine g_goto (tgt := 95) (pc := 142) dX4_runScript_142 (by decide) ?_
              refine g_iload (pc := 95) dX4_runScript_95 rfl ?_
              refine g_iload_n (i := 1) (pc := 97) dX4_runScript_97 rfl rfl ?_
              refine g_c_ge (tgt := 145) (pc := 98) dX4_runScript_98 (by omega) (by decide) (fun c98 => ?_) (fun c98 => ?_)
              · skip
                refine g_aload_n (i := 0) (pc := 145) dX4_runScript_145 rfl rfl ?_
                refine g_getf (pc := 146) f_X4_16 dX4_runScript_146 (c_79) rfl ?_
                refine g_iconst (pc := 149) dX4_runScript_149 ?_
                refine g_aload_n (i := 0) (pc := 150) dX4_runScript_150 rfl rfl ?_
                refine g_getf (pc := 151) f_X4_7 dX4_runScript_151 (c_79) rfl ?_
                refine g_iconst (pc := 154) dX4_runScript_154 ?_
                refine g_s4 (pc := 155) okS_X4_copy rfl l_X4_172 dX4_runScript_155 (by decide) (by decide) (Nat.le_of_ble_eq_true rfl) (t_X4_copy (f := 0) (t := 0) c_82 c_80 (by decide) ⟨by omega, by omega⟩ ⟨by omega, by omega⟩) (List.length_set ..) ?_
                refine G.eqw (w' := cW κ (dE (n_setst (n_setst (n_setsk (n_setth (ν) (0)) (n_st ν)) (itr (n_st ν) n s (k + 1))) (n_st ν))) o) (by exact cpk_sk ((n_sk_st _ _).trans (n_sk_sk _ _))) ?_
                refine g_iload (pc := 158) dX4_runScript_158 rfl ?_
                refine g_iret (pc := 160) rfl dX4_runScript_160 (fun h => h) ?_
                exact df_0 (ru_0 (by omega) (by omega)) (ff_some (by rw [Bool.not_eq_true', Bool.eq_false_iff]; exact b2_0.mp (by omega)) hH hk).symm (nw rfl)
              · skip
                refine g_iload (pc := 101) dX4_runScript_101 rfl ?_
                refine g_iconst (pc := 103) dX4_runScript_103 ?_
                refine g_c_ne (tgt := 145) (pc := 104) dX4_runScript_104 (by omega) (by decide) (fun c104 => ?_) (fun c104 => absurd c104 (by omega))
                refine g_aload_n (i := 0) (pc := 145) dX4_runScript_145 rfl rfl ?_
                refine g_getf (pc := 146) f_X4_16 dX4_runScript_146 (c_79) rfl ?_
                refine g_iconst (pc := 149) dX4_runScript_149 ?_
                refine g_aload_n (i := 0) (pc := 150) dX4_runScript_150 rfl rfl ?_
                refine g_getf (pc := 151) f_X4_7 dX4_runScript_151 (c_79) rfl ?_
                refine g_iconst (pc := 154) dX4_runScript_154 ?_
                refine g_s4 (pc := 155) okS_X4_copy rfl l_X4_172 dX4_runScript_155 (by decide) (by decide) (Nat.le_of_ble_eq_true rfl) (t_X4_copy (f := 0) (t := 0) c_82 c_80 (by decide) ⟨by omega, by omega⟩ ⟨by omega, by omega⟩) (List.length_set ..) ?_
                refine G.eqw (w' := cW κ (dE (n_setst (n_setst (n_setsk (n_setth (ν) (0)) (n_st ν)) (itr (n_st ν) n s (k + 1))) (n_st ν))) o) (by exact cpk_sk ((n_sk_st _ _).trans (n_sk_sk _ _))) ?_
                refine g_iload (pc := 158) dX4_runScript_158 rfl ?_
                refine g_iret (pc := 160) rfl dX4_runScript_160 (fun h => h) ?_
                exact df_0 (ru_0 (by omega) (by omega)) (ff_some (by rw [Bool.not_eq_true', Bool.eq_false_iff]; exact b2_0.mp (by omega)) hH hk).symm (nw rfl)
            · skip
              refine g_iconst (pc := 123) dX4_runScript_123 ?_
              refine g_goto (tgt := 129) (pc := 124) dX4_runScript_124 (by decide) ?_
              refine g_istore (pc := 129) dX4_runScript_129 (by decide) rfl ?_
              simp only [List.set_cons_succ, List.set_cons_zero]
              refine g_lload (pc := 131) dX4_runScript_131 rfl ?_
              refine g_ldc2 (n := 100000) (pc := 133) co_X4_217 dX4_runScript_133 rfl ?_
              refine g_ldiv (pc := 136) dX4_runScript_136 (by omega) (by decide) ?_
              refine G.eqS (congrArg (fun z => vL z) (gq_s (n := n) (k := k) (by omega) (by omega))) ?_
              refine g_lstore (pc := 137) dX4_runScript_137 (by decide) rfl ?_
              simp only [List.set_cons_succ, List.set_cons_zero]
              refine g_iinc (pc := 139) dX4_runScript_139 rfl (by decide) rfl ?_
              simp only [List.set_cons_succ, List.set_cons_zero]
              refine g_goto (tgt := 95) (pc := 142) dX4_runScript_142 (by decide) ?_
              refine ih (fun j hj => ?_)
              rcases Nat.lt_or_ge j k with q | q
              · exact hH j q
              · rw [show j = k by omega, b2_1.mp (show b2 (cV (itr (n_st ν) n s k) (cmd n s k)) = 1 by omega)]
                decide
        · skip
          refine g_iconst (pc := 51) dX4_runScript_51 ?_
          refine g_goto (tgt := 56) (pc := 52) dX4_runScript_52 (by decide) ?_
          refine g_put (pc := 56) ft_X4_34 dX4_runScript_56 (c_79) (Nat.le_of_ble_eq_true rfl) (fun _ => rfl) (fun _ => rfl) (fun h => nomatch h) ?_
          refine G.eqw v_th ?_
          refine g_aload_n (i := 0) (pc := 59) dX4_runScript_59 rfl rfl ?_
          refine g_getf (pc := 60) f_X4_34 dX4_runScript_60 (c_79) rfl ?_
          refine G.eqS (v' := vI (1)) rfl ?_
          refine g_z_le (tgt := 68) (pc := 63) dX4_runScript_63 (by omega) (by decide) (fun c63 => absurd c63 (by omega)) (fun c63 => ?_)
          refine g_iconst (pc := 66) dX4_runScript_66 ?_
          refine g_iret (pc := 67) rfl dX4_runScript_67 (fun h => h) ?_
          exact df_1 (k := 1) (ru_1 (by omega)) (by decide) (nw rfl)
  · skip
    refine g_ldc2 (n := 100000) (pc := 5) co_X4_217 dX4_runScript_5 rfl ?_
    refine g_goto (tgt := 25) (pc := 8) dX4_runScript_8 (by decide) ?_
    refine g_lstore (pc := 25) dX4_runScript_25 (by decide) rfl ?_
    simp only [List.set_cons_succ, List.set_cons_zero]
    refine g_aload_n (i := 0) (pc := 27) dX4_runScript_27 rfl rfl ?_
    refine g_iload_n (i := 1) (pc := 28) dX4_runScript_28 rfl rfl ?_
    refine g_iconst (pc := 29) dX4_runScript_29 ?_
    refine g_c_lt (tgt := 51) (pc := 30) dX4_runScript_30 (by omega) (by decide) (fun c30 => absurd c30 (by omega)) (fun c30 => ?_)
    refine g_iload_n (i := 1) (pc := 33) dX4_runScript_33 rfl rfl ?_
    refine g_iconst (pc := 34) dX4_runScript_34 ?_
    refine g_c_gt (tgt := 51) (pc := 35) dX4_runScript_35 (by omega) (by decide) (fun c35 => absurd c35 (by omega)) (fun c35 => ?_)
    refine g_lload_n (i := 2) (pc := 38) dX4_runScript_38 rfl rfl ?_
    refine g_lconst (z := 0) (pc := 39) dX4_runScript_39 rfl ?_
    refine g_lcmp (y := 0) (pc := 40) dX4_runScript_40 (by omega) (by decide) ?_
    have k40 := b_cmp_s s 0
    refine g_z_lt (tgt := 51) (pc := 41) dX4_runScript_41 (by omega) (by decide) (fun c41 => ?_) (fun c41 => ?_)
    · skip
      refine g_iconst (pc := 51) dX4_runScript_51 ?_
      refine g_goto (tgt := 56) (pc := 52) dX4_runScript_52 (by decide) ?_
      refine g_put (pc := 56) ft_X4_34 dX4_runScript_56 (c_79) (Nat.le_of_ble_eq_true rfl) (fun _ => rfl) (fun _ => rfl) (fun h => nomatch h) ?_
      refine G.eqw v_th ?_
      refine g_aload_n (i := 0) (pc := 59) dX4_runScript_59 rfl rfl ?_
      refine g_getf (pc := 60) f_X4_34 dX4_runScript_60 (c_79) rfl ?_
      refine G.eqS (v' := vI (1)) rfl ?_
      refine g_z_le (tgt := 68) (pc := 63) dX4_runScript_63 (by omega) (by decide) (fun c63 => absurd c63 (by omega)) (fun c63 => ?_)
      refine g_iconst (pc := 66) dX4_runScript_66 ?_
      refine g_iret (pc := 67) rfl dX4_runScript_67 (fun h => h) ?_
      exact df_1 (k := 1) (ru_1 (by omega)) (by decide) (nw rfl)
    · skip
      refine g_lload_n (i := 2) (pc := 44) dX4_runScript_44 rfl rfl ?_
      refine g_lload (pc := 45) dX4_runScript_45 rfl ?_
      have hb9 : bnd n = 100000 := by unfold bnd; first | (rw [if_pos (by omega)]; done) | (rw [if_neg (by omega), if_pos (by omega)]; done) | rw [if_neg (by omega), if_neg (by omega)]
      have k47 := b_cmp_s s 100000
      refine g_lcmp (pc := 47) dX4_runScript_47 (by omega) (by decide) ?_
      refine g_z_lt (tgt := 55) (pc := 48) dX4_runScript_48 (by omega) (by decide) (fun c48 => ?_) (fun c48 => ?_)
      · skip
        refine g_iconst (pc := 55) dX4_runScript_55 ?_
        refine g_put (pc := 56) ft_X4_34 dX4_runScript_56 (c_79) (Nat.le_of_ble_eq_true rfl) (fun _ => rfl) (fun _ => rfl) (fun h => nomatch h) ?_
        refine G.eqw v_th ?_
        refine g_aload_n (i := 0) (pc := 59) dX4_runScript_59 rfl rfl ?_
        refine g_getf (pc := 60) f_X4_34 dX4_runScript_60 (c_79) rfl ?_
        refine G.eqS (v' := vI (0)) rfl ?_
        refine g_z_le (tgt := 68) (pc := 63) dX4_runScript_63 (by omega) (by decide) (fun c63 => ?_) (fun c63 => absurd c63 (by omega))
        refine g_aload_n (i := 0) (pc := 68) dX4_runScript_68 rfl rfl ?_
        refine g_getf (pc := 69) f_X4_7 dX4_runScript_69 (c_79) rfl ?_
        refine g_iconst (pc := 72) dX4_runScript_72 ?_
        refine g_aload_n (i := 0) (pc := 73) dX4_runScript_73 rfl rfl ?_
        refine g_getf (pc := 74) f_X4_16 dX4_runScript_74 (c_79) rfl ?_
        refine g_iconst (pc := 77) dX4_runScript_77 ?_
        refine g_s4 (pc := 78) okS_X4_copy rfl l_X4_172 dX4_runScript_78 (by decide) (by decide) (Nat.le_of_ble_eq_true rfl) (t_X4_copy (f := 0) (t := 0) c_80 c_82 (by decide) ⟨by omega, by omega⟩ ⟨by omega, by omega⟩) (List.length_set ..) ?_
        refine G.eqw (w' := cW κ (dE (n_setsk (n_setth (ν) (0)) (n_st ν))) o) (by exact (congrArg (fun z => (cW κ (dE (n_setth (ν) (0))) o).set 82 (cArr 0 121 z)) (cp_ss (n_st ν) (n_sk ν))).trans v_sk) ?_
        refine g_iconst (pc := 81) dX4_runScript_81 ?_
        refine g_istore (pc := 82) dX4_runScript_82 (by decide) rfl ?_
        simp only [List.set_cons_succ, List.set_cons_zero]
        refine g_lload (pc := 84) dX4_runScript_84 rfl ?_
        refine g_ldc2 (n := 100000) (pc := 86) co_X4_217 dX4_runScript_86 rfl ?_
        refine g_ldiv (pc := 89) dX4_runScript_89 (by decide) (by decide) ?_
        refine G.eqS (v' := vL (gq n 0)) (congrArg (fun z => vL z) (show _ = gq n 0 by unfold gq; first | (rw [if_pos (by omega)]; decide) | (rw [if_neg (by omega), if_pos (by omega)]; decide) | (rw [if_neg (by omega), if_neg (by omega), if_pos (by omega)]; decide))) ?_
        refine g_lstore (pc := 90) dX4_runScript_90 (by decide) rfl ?_
        simp only [List.set_cons_succ, List.set_cons_zero]
        refine g_iconst (pc := 92) dX4_runScript_92 ?_
        refine g_istore (pc := 93) dX4_runScript_93 (by decide) rfl ?_
        simp only [List.set_cons_succ, List.set_cons_zero]
        have hi9 := hi
        refine G.drop 4 ?_
        simp only [List.set_cons_succ, List.set_cons_zero]
        refine lp_up (P := fun k => (∀ j : Nat, j < k → ¬ (!(cV (itr (n_st ν) n s j) (cmd n s j))) = true) → G M_X4_runScript none al al 95 [some (vR 79), some (vI n), some (vL s), none, none, none, some (vI (-1)), some (vL (gq n k)), none, some (vI k)] [] (cW κ (dE (n_setst (n_setsk (n_setth (ν) (0)) (n_st ν)) (itr (n_st ν) n s k))) o) 0 0 (dt (some (vI (nV (xc_ru n s) (ruv (n_st ν) n s)))) (cW κ (dE (nR ν (xc_ru n s) (n_setsk ν (n_st ν)))) o))) n.toNat ?_ ?_ 0 (Nat.zero_le _) (fun j hj => absurd hj (Nat.not_lt_zero j))
        · intro hH
          show G _ _ _ _ _ _ _ _ _ _ _
          refine g_iload (pc := 95) dX4_runScript_95 rfl ?_
          refine g_iload_n (i := 1) (pc := 97) dX4_runScript_97 rfl rfl ?_
          refine g_c_ge (tgt := 145) (pc := 98) dX4_runScript_98 (by omega) (by decide) (fun c98 => ?_) (fun c98 => absurd c98 (by omega))
          refine g_aload_n (i := 0) (pc := 145) dX4_runScript_145 rfl rfl ?_
          refine g_getf (pc := 146) f_X4_16 dX4_runScript_146 (c_79) rfl ?_
          refine g_iconst (pc := 149) dX4_runScript_149 ?_
          refine g_aload_n (i := 0) (pc := 150) dX4_runScript_150 rfl rfl ?_
          refine g_getf (pc := 151) f_X4_7 dX4_runScript_151 (c_79) rfl ?_
          refine g_iconst (pc := 154) dX4_runScript_154 ?_
          refine g_s4 (pc := 155) okS_X4_copy rfl l_X4_172 dX4_runScript_155 (by decide) (by decide) (Nat.le_of_ble_eq_true rfl) (t_X4_copy (f := 0) (t := 0) c_82 c_80 (by decide) ⟨by omega, by omega⟩ ⟨by omega, by omega⟩) (List.length_set ..) ?_
          refine G.eqw (w' := cW κ (dE (n_setst (n_setst (n_setsk (n_setth (ν) (0)) (n_st ν)) (itr (n_st ν) n s n.toNat)) (n_st ν))) o) (by exact cpk_sk ((n_sk_st _ _).trans (n_sk_sk _ _))) ?_
          refine g_iload (pc := 158) dX4_runScript_158 rfl ?_
          refine g_iret (pc := 160) rfl dX4_runScript_160 (fun h => h) ?_
          exact df_0 (ru_0 (by omega) (by omega)) (ff_none hH).symm (nw rfl)
        · intro k hk ih hH
          have hi := inv_itr hi9 n s k
          have hg9 := gq_rng (n := n) (k := k) (by omega) (by omega)
          show G _ _ _ _ _ _ _ _ _ _ _
          refine g_iload (pc := 95) dX4_runScript_95 rfl ?_
          refine g_iload_n (i := 1) (pc := 97) dX4_runScript_97 rfl rfl ?_
          refine g_c_ge (tgt := 145) (pc := 98) dX4_runScript_98 (by omega) (by decide) (fun c98 => absurd c98 (by omega)) (fun c98 => ?_)
          refine g_iload (pc := 101) dX4_runScript_101 rfl ?_
          refine g_iconst (pc := 103) dX4_runScript_103 ?_
          refine g_c_ne (tgt := 145) (pc := 104) dX4_runScript_104 (by omega) (by decide) (fun c104 => absurd c104 (by omega)) (fun c104 => ?_)
          refine g_aload_n (i := 0) (pc := 107) dX4_runScript_107 rfl rfl ?_
          refine g_lload_n (i := 2) (pc := 108) dX4_runScript_108 rfl rfl ?_
          refine g_lload (pc := 109) dX4_runScript_109 rfl ?_
          refine g_ldiv (pc := 111) dX4_runScript_111 (by omega) (by omega) ?_
          refine g_ldc2 (n := 100000) (pc := 112) co_X4_217 dX4_runScript_112 rfl ?_
          have h9c := cmd_at (n := n) (s := s) (k := k) (by omega) (by omega) (by omega)
          refine g_lrem (pc := 115) dX4_runScript_115 ?_ (by decide) ?_
          · have h8 := wl_rng (s := s) (by omega) (n - 1 - k).toNat
            have h7 : Int.tdiv s (gq n k) ≤ s ∧ 0 ≤ Int.tdiv s (gq n k) := by
              rw [Int.tdiv_eq_ediv_of_nonneg (by omega)]
              exact ⟨Int.ediv_le_self _ (by omega), Int.ediv_nonneg (by omega) (by omega)⟩
            omega
          refine G.eqS (congrArg (fun z => vL z) h9c) ?_
          refine g_l2i (pc := 116) dX4_runScript_116 ?_
          refine g_v1 (pc := 117) okV_X4_commands rfl l_X4_223 dX4_runScript_117 (c_79) hc_4 (by decide) (by decide) (Nat.le_of_ble_eq_true rfl) (t_X4_commands (ν := n_setst (n_setsk (n_setth (ν) (0)) (n_st ν)) (itr (n_st ν) n s k)) hi (d := cmd n s k) (by unfold cmd; omega)) (by rw [c_len, c_len]) ?_
          simp only [Option.toList, List.cons_append, List.nil_append]
          refine G.eqw (w' := cW κ (dE (n_setst (n_setsk (n_setth (ν) (0)) (n_st ν)) (itr (n_st ν) n s (k + 1)))) o) rfl ?_
          refine G.eqS (v' := vI (b2 (cV (itr (n_st ν) n s k) (cmd n s k)))) rfl ?_
          have bb := b2_rng (cV (itr (n_st ν) n s k) (cmd n s k))
          refine g_z_eq (tgt := 127) (pc := 120) dX4_runScript_120 (by omega) (by decide) (fun c120 => ?_) (fun c120 => ?_)
          · skip
            refine g_iload (pc := 127) dX4_runScript_127 rfl ?_
            refine g_istore (pc := 129) dX4_runScript_129 (by decide) rfl ?_
            simp only [List.set_cons_succ, List.set_cons_zero]
            refine g_lload (pc := 131) dX4_runScript_131 rfl ?_
            refine g_ldc2 (n := 100000) (pc := 133) co_X4_217 dX4_runScript_133 rfl ?_
            refine g_ldiv (pc := 136) dX4_runScript_136 (by omega) (by decide) ?_
            refine G.eqS (congrArg (fun z => vL z) (gq_s (n := n) (k := k) (by omega) (by omega))) ?_
            refine g_lstore (pc := 137) dX4_runScript_137 (by decide) rfl ?_
            simp only [List.set_cons_succ, List.set_cons_zero]
            refine g_iinc (pc := 139) dX4_runScript_139 rfl (by decide) rfl ?_
            simp only [List.set_cons_succ, List.set_cons_zero]
            refine g_goto (tgt := 95) (pc := 142) dX4_runScript_142 (by decide) ?_
            refine g_iload (pc := 95) dX4_runScript_95 rfl ?_
            refine g_iload_n (i := 1) (pc := 97) dX4_runScript_97 rfl rfl ?_
            refine g_c_ge (tgt := 145) (pc := 98) dX4_runScript_98 (by omega) (by decide) (fun c98 => ?_) (fun c98 => ?_)
            · skip
              refine g_aload_n (i := 0) (pc := 145) dX4_runScript_145 rfl rfl ?_
              refine g_getf (pc := 146) f_X4_16 dX4_runScript_146 (c_79) rfl ?_
              refine g_iconst (pc := 149) dX4_runScript_149 ?_
              refine g_aload_n (i := 0) (pc := 150) dX4_runScript_150 rfl rfl ?_
              refine g_getf (pc := 151) f_X4_7 dX4_runScript_151 (c_79) rfl ?_
              refine g_iconst (pc := 154) dX4_runScript_154 ?_
              refine g_s4 (pc := 155) okS_X4_copy rfl l_X4_172 dX4_runScript_155 (by decide) (by decide) (Nat.le_of_ble_eq_true rfl) (t_X4_copy (f := 0) (t := 0) c_82 c_80 (by decide) ⟨by omega, by omega⟩ ⟨by omega, by omega⟩) (List.length_set ..) ?_
              refine G.eqw (w' := cW κ (dE (n_setst (n_setst (n_setsk (n_setth (ν) (0)) (n_st ν)) (itr (n_st ν) n s (k + 1))) (n_st ν))) o) (by exact cpk_sk ((n_sk_st _ _).trans (n_sk_sk _ _))) ?_
              refine g_iload (pc := 158) dX4_runScript_158 rfl ?_
              refine g_iret (pc := 160) rfl dX4_runScript_160 (fun h => h) ?_
              exact df_0 (ru_0 (by omega) (by omega)) (ff_some (by rw [Bool.not_eq_true', Bool.eq_false_iff]; exact b2_0.mp (by omega)) hH hk).symm (nw rfl)
            · skip
              refine g_iload (pc := 101) dX4_runScript_101 rfl ?_
              refine g_iconst (pc := 103) dX4_runScript_103 ?_
              refine g_c_ne (tgt := 145) (pc := 104) dX4_runScript_104 (by omega) (by decide) (fun c104 => ?_) (fun c104 => absurd c104 (by omega))
              refine g_aload_n (i := 0) (pc := 145) dX4_runScript_145 rfl rfl ?_
              refine g_getf (pc := 146) f_X4_16 dX4_runScript_146 (c_79) rfl ?_
              refine g_iconst (pc := 149) dX4_runScript_149 ?_
              refine g_aload_n (i := 0) (pc := 150) dX4_runScript_150 rfl rfl ?_
              refine g_getf (pc := 151) f_X4_7 dX4_runScript_151 (c_79) rfl ?_
              refine g_iconst (pc := 154) dX4_runScript_154 ?_
              refine g_s4 (pc := 155) okS_X4_copy rfl l_X4_172 dX4_runScript_155 (by decide) (by decide) (Nat.le_of_ble_eq_true rfl) (t_X4_copy (f := 0) (t := 0) c_82 c_80 (by decide) ⟨by omega, by omega⟩ ⟨by omega, by omega⟩) (List.length_set ..) ?_
              refine G.eqw (w' := cW κ (dE (n_setst (n_setst (n_setsk (n_setth (ν) (0)) (n_st ν)) (itr (n_st ν) n s (k + 1))) (n_st ν))) o) (by exact cpk_sk ((n_sk_st _ _).trans (n_sk_sk _ _))) ?_
              refine g_iload (pc := 158) dX4_runScript_158 rfl ?_
              refine g_iret (pc := 160) rfl dX4_runScript_160 (fun h => h) ?_
              exact df_0 (ru_0 (by omega) (by omega)) (ff_some (by rw [Bool.not_eq_true', Bool.eq_false_iff]; exact b2_0.mp (by omega)) hH hk).symm (nw rfl)
          · skip
            refine g_iconst (pc := 123) dX4_runScript_123 ?_
            refine g_goto (tgt := 129) (pc := 124) dX4_runScript_124 (by decide) ?_
            refine g_istore (pc := 129) dX4_runScript_129 (by decide) rfl ?_
            simp only [List.set_cons_succ, List.set_cons_zero]
            refine g_lload (pc := 131) dX4_runScript_131 rfl ?_
            refine g_ldc2 (n := 100000) (pc := 133) co_X4_217 dX4_runScript_133 rfl ?_
            refine g_ldiv (pc := 136) dX4_runScript_136 (by omega) (by decide) ?_
            refine G.eqS (congrArg (fun z => vL z) (gq_s (n := n) (k := k) (by omega) (by omega))) ?_
            refine g_lstore (pc := 137) dX4_runScript_137 (by decide) rfl ?_
            simp only [List.set_cons_succ, List.set_cons_zero]
            refine g_iinc (pc := 139) dX4_runScript_139 rfl (by decide) rfl ?_
            simp only [List.set_cons_succ, List.set_cons_zero]
            refine g_goto (tgt := 95) (pc := 142) dX4_runScript_142 (by decide) ?_
            refine ih (fun j hj => ?_)
            rcases Nat.lt_or_ge j k with q | q
            · exact hH j q
            · rw [show j = k by omega, b2_1.mp (show b2 (cV (itr (n_st ν) n s k) (cmd n s k)) = 1 by omega)]
              decide
      · skip
        refine g_iconst (pc := 51) dX4_runScript_51 ?_
        refine g_goto (tgt := 56) (pc := 52) dX4_runScript_52 (by decide) ?_
        refine g_put (pc := 56) ft_X4_34 dX4_runScript_56 (c_79) (Nat.le_of_ble_eq_true rfl) (fun _ => rfl) (fun _ => rfl) (fun h => nomatch h) ?_
        refine G.eqw v_th ?_
        refine g_aload_n (i := 0) (pc := 59) dX4_runScript_59 rfl rfl ?_
        refine g_getf (pc := 60) f_X4_34 dX4_runScript_60 (c_79) rfl ?_
        refine G.eqS (v' := vI (1)) rfl ?_
        refine g_z_le (tgt := 68) (pc := 63) dX4_runScript_63 (by omega) (by decide) (fun c63 => absurd c63 (by omega)) (fun c63 => ?_)
        refine g_iconst (pc := 66) dX4_runScript_66 ?_
        refine g_iret (pc := 67) rfl dX4_runScript_67 (fun h => h) ?_
        exact df_1 (k := 1) (ru_1 (by omega)) (by decide) (nw rfl)
set_option maxRecDepth 20000 in
set_option maxHeartbeats 300000 in
theorem t_X4_simulate {κ : KT} {ν : NT} {o : Nat → Int} {al : Bool} (hN : NInv ν) {x m : Int} (h_x : -9223372036854775808 ≤ x ∧ x < 9223372036854775808) (h_m : -2147483648 ≤ m ∧ m < 2147483648) : GM M_X4_simulate al [vR 79, vL x, vI m] (cW κ (dE ν) o) 0 0 (dt (some (vI (nV (xc_si m) (siv (n_st ν) x m)))) (cW κ (dE (nR ν (xc_si m) (n_setsk ν (n_st ν)))) o)) := by
  show G _ none _ _ 0 [some (vR 79), some (vL x), none, some (vI m), none, none, none, none] [] _ _ _ _
  have hi := hN.1
  have hr := hN.2.1
  refine g_aload_n (i := 0) (pc := 0) dX4_simulate_0 rfl rfl ?_
  refine g_iload_n (i := 3) (pc := 1) dX4_simulate_1 rfl rfl ?_
  refine g_iconst (pc := 2) dX4_simulate_2 ?_
  refine g_bipush (pc := 3) dX4_simulate_3 (by decide) ?_
  refine g_s3 (pc := 5) okS_X4_within rfl l_X4_38 dX4_simulate_5 (by decide) (by decide) (Nat.le_of_ble_eq_true rfl) (t_X4_within (by omega) (by omega) (by omega)) rfl ?_
  simp only [Option.toList, List.cons_append, List.nil_append]
  have bb := b2_rng (decide (1 ≤ m ∧ m ≤ 99))
  have b1 := b2_dec (p := 1 ≤ m ∧ m ≤ 99)
  refine g_z_eq (tgt := 15) (pc := 8) dX4_simulate_8 (by omega) (by decide) (fun c8 => ?_) (fun c8 => ?_)
  · skip
    refine g_iconst (pc := 15) dX4_simulate_15 ?_
    refine g_put (pc := 16) ft_X4_34 dX4_simulate_16 (c_79) (Nat.le_of_ble_eq_true rfl) (fun _ => rfl) (fun _ => rfl) (fun h => nomatch h) ?_
    refine G.eqw v_th ?_
    refine g_aload_n (i := 0) (pc := 19) dX4_simulate_19 rfl rfl ?_
    refine g_getf (pc := 20) f_X4_34 dX4_simulate_20 (c_79) rfl ?_
    refine G.eqS (v' := vI (1)) rfl ?_
    refine g_z_le (tgt := 28) (pc := 23) dX4_simulate_23 (by omega) (by decide) (fun c23 => absurd c23 (by omega)) (fun c23 => ?_)
    refine g_iconst (pc := 26) dX4_simulate_26 ?_
    refine g_iret (pc := 27) rfl dX4_simulate_27 (fun h => h) ?_
    exact df_1 (k := 1) (by unfold xc_si; rw [if_pos (by omega)]) (by decide) (nw rfl)
  · skip
    refine g_iconst (pc := 11) dX4_simulate_11 ?_
    refine g_goto (tgt := 16) (pc := 12) dX4_simulate_12 (by decide) ?_
    refine g_put (pc := 16) ft_X4_34 dX4_simulate_16 (c_79) (Nat.le_of_ble_eq_true rfl) (fun _ => rfl) (fun _ => rfl) (fun h => nomatch h) ?_
    refine G.eqw v_th ?_
    refine g_aload_n (i := 0) (pc := 19) dX4_simulate_19 rfl rfl ?_
    refine g_getf (pc := 20) f_X4_34 dX4_simulate_20 (c_79) rfl ?_
    refine G.eqS (v' := vI (0)) rfl ?_
    refine g_z_le (tgt := 28) (pc := 23) dX4_simulate_23 (by omega) (by decide) (fun c23 => ?_) (fun c23 => absurd c23 (by omega))
    refine g_aload_n (i := 0) (pc := 28) dX4_simulate_28 rfl rfl ?_
    refine g_getf (pc := 29) f_X4_7 dX4_simulate_29 (c_79) rfl ?_
    refine g_iconst (pc := 32) dX4_simulate_32 ?_
    refine g_aload_n (i := 0) (pc := 33) dX4_simulate_33 rfl rfl ?_
    refine g_getf (pc := 34) f_X4_16 dX4_simulate_34 (c_79) rfl ?_
    refine g_iconst (pc := 37) dX4_simulate_37 ?_
    refine g_s4 (pc := 38) okS_X4_copy rfl l_X4_172 dX4_simulate_38 (by decide) (by decide) (Nat.le_of_ble_eq_true rfl) (t_X4_copy (f := 0) (t := 0) c_80 c_82 (by decide) ⟨by omega, by omega⟩ ⟨by omega, by omega⟩) (List.length_set ..) ?_
    refine G.eqw (w' := cW κ (dE (n_setsk (n_setth (ν) (0)) (n_st ν))) o) (by exact (congrArg (fun z => (cW κ (dE (n_setth (ν) (0))) o).set 82 (cArr 0 121 z)) (cp_ss (n_st ν) (n_sk ν))).trans v_sk) ?_
    refine g_lload_n (i := 1) (pc := 41) dX4_simulate_41 rfl rfl ?_
    refine g_lstore (pc := 42) dX4_simulate_42 (by decide) rfl ?_
    simp only [List.set_cons_succ, List.set_cons_zero]
    refine g_iconst (pc := 44) dX4_simulate_44 ?_
    refine g_istore (pc := 45) dX4_simulate_45 (by decide) rfl ?_
    simp only [List.set_cons_succ, List.set_cons_zero]
    have hi9 := hi
    refine lp_up (P := fun k => G M_X4_simulate none al al 47 [some (vR 79), some (vL x), none, some (vI m), some (vL (sx x k)), none, some (vI k), none] [] (cW κ (dE (n_setst (n_setsk (n_setth (ν) (0)) (n_st ν)) (its (n_st ν) x k))) o) 0 0 (dt (some (vI (nV (xc_si m) (siv (n_st ν) x m)))) (cW κ (dE (nR ν (xc_si m) (n_setsk ν (n_st ν)))) o))) m.toNat ?_ ?_ 0 (Nat.zero_le _)
    · show G _ _ _ _ _ _ _ _ _ _ _
      refine g_iload (pc := 47) dX4_simulate_47 rfl ?_
      refine g_iload_n (i := 3) (pc := 49) dX4_simulate_49 rfl rfl ?_
      refine g_c_ge (tgt := 106) (pc := 50) dX4_simulate_50 (by omega) (by decide) (fun c50 => ?_) (fun c50 => absurd c50 (by omega))
      refine g_aload_n (i := 0) (pc := 106) dX4_simulate_106 rfl rfl ?_
      refine g_getf (pc := 107) f_X4_7 dX4_simulate_107 (c_79) rfl ?_
      refine g_bipush (pc := 110) dX4_simulate_110 (by decide) ?_
      refine g_iald (pc := 112) dX4_simulate_112 (c_80) (by omega) ?_
      refine g_aload_n (i := 0) (pc := 113) dX4_simulate_113 rfl rfl ?_
      refine g_getf (pc := 114) f_X4_16 dX4_simulate_114 (c_79) rfl ?_
      refine g_bipush (pc := 117) dX4_simulate_117 (by decide) ?_
      refine g_iald (pc := 119) dX4_simulate_119 (c_82) (by omega) ?_
      refine g_isub (pc := 120) dX4_simulate_120 ?_
      refine g_wr ?_
      refine G.eqS (v' := vI (wr (s_co (its (n_st ν) x m.toNat) - s_co (n_st ν)))) rfl ?_
      have y9 := wr_rng (s_co (its (n_st ν) x m.toNat) - s_co (n_st ν))
      refine g_istore (pc := 121) dX4_simulate_121 (by decide) rfl ?_
      simp only [List.set_cons_succ, List.set_cons_zero]
      refine g_aload_n (i := 0) (pc := 123) dX4_simulate_123 rfl rfl ?_
      refine g_getf (pc := 124) f_X4_7 dX4_simulate_124 (c_79) rfl ?_
      refine g_bipush (pc := 127) dX4_simulate_127 (by decide) ?_
      refine g_iald (pc := 129) dX4_simulate_129 (c_80) (by omega) ?_
      refine g_aload_n (i := 0) (pc := 130) dX4_simulate_130 rfl rfl ?_
      refine g_getf (pc := 131) f_X4_16 dX4_simulate_131 (c_79) rfl ?_
      refine g_bipush (pc := 134) dX4_simulate_134 (by decide) ?_
      refine g_iald (pc := 136) dX4_simulate_136 (c_82) (by omega) ?_
      refine g_isub (pc := 137) dX4_simulate_137 ?_
      refine g_wr ?_
      refine G.eqS (v' := vI (wr (s_te (its (n_st ν) x m.toNat) - s_te (n_st ν)))) rfl ?_
      have y8 := wr_rng (s_te (its (n_st ν) x m.toNat) - s_te (n_st ν))
      refine g_istore (pc := 138) dX4_simulate_138 (by decide) rfl ?_
      simp only [List.set_cons_succ, List.set_cons_zero]
      refine g_aload_n (i := 0) (pc := 140) dX4_simulate_140 rfl rfl ?_
      refine g_getf (pc := 141) f_X4_16 dX4_simulate_141 (c_79) rfl ?_
      refine g_iconst (pc := 144) dX4_simulate_144 ?_
      refine g_aload_n (i := 0) (pc := 145) dX4_simulate_145 rfl rfl ?_
      refine g_getf (pc := 146) f_X4_7 dX4_simulate_146 (c_79) rfl ?_
      refine g_iconst (pc := 149) dX4_simulate_149 ?_
      refine g_s4 (pc := 150) okS_X4_copy rfl l_X4_172 dX4_simulate_150 (by decide) (by decide) (Nat.le_of_ble_eq_true rfl) (t_X4_copy (f := 0) (t := 0) c_82 c_80 (by decide) ⟨by omega, by omega⟩ ⟨by omega, by omega⟩) (List.length_set ..) ?_
      refine G.eqw (w' := cW κ (dE (n_setst (n_setst (n_setsk (n_setth (ν) (0)) (n_st ν)) (its (n_st ν) x m.toNat)) (n_st ν))) o) (by exact cpk_sk ((n_sk_st _ _).trans (n_sk_sk _ _))) ?_
      refine g_sipush (pc := 153) dX4_simulate_153 (by decide) ?_
      refine g_iload (pc := 156) dX4_simulate_156 rfl ?_
      refine g_sipush (pc := 158) dX4_simulate_158 (by decide) ?_
      refine g_c_ge (tgt := 169) (pc := 161) dX4_simulate_161 (by omega) (by decide) (fun c161 => ?_) (fun c161 => ?_)
      · skip
        refine g_sipush (pc := 169) dX4_simulate_169 (by decide) ?_
        refine g_imul (pc := 172) dX4_simulate_172 ?_
        refine g_iload (pc := 173) dX4_simulate_173 rfl ?_
        refine g_sipush (pc := 175) dX4_simulate_175 (by decide) ?_
        refine g_c_ge (tgt := 186) (pc := 178) dX4_simulate_178 (by omega) (by decide) (fun c178 => ?_) (fun c178 => ?_)
        · skip
          refine g_sipush (pc := 186) dX4_simulate_186 (by decide) ?_
          refine g_iadd (pc := 189) dX4_simulate_189 ?_
          refine g_iret (pc := 190) rfl dX4_simulate_190 (fun h => h) ?_
          exact df_0 (by unfold xc_si; rw [if_neg (by omega)]) (by unfold siv mn9; rw [if_neg (show ¬ (wr (s_co (its (n_st ν) x m.toNat) - s_co (n_st ν))) < 999 by omega), if_neg (show ¬ (wr (s_te (its (n_st ν) x m.toNat) - s_te (n_st ν))) < 999 by omega)]) (nw rfl)
        · skip
          refine g_iload (pc := 181) dX4_simulate_181 rfl ?_
          refine g_goto (tgt := 189) (pc := 183) dX4_simulate_183 (by decide) ?_
          refine g_iadd (pc := 189) dX4_simulate_189 ?_
          refine g_iret (pc := 190) rfl dX4_simulate_190 (fun h => h) ?_
          exact df_0 (by unfold xc_si; rw [if_neg (by omega)]) (by unfold siv mn9; rw [if_neg (show ¬ (wr (s_co (its (n_st ν) x m.toNat) - s_co (n_st ν))) < 999 by omega), if_pos (show  (wr (s_te (its (n_st ν) x m.toNat) - s_te (n_st ν))) < 999 by omega)]) (nw rfl)
      · skip
        refine g_iload (pc := 164) dX4_simulate_164 rfl ?_
        refine g_goto (tgt := 172) (pc := 166) dX4_simulate_166 (by decide) ?_
        refine g_imul (pc := 172) dX4_simulate_172 ?_
        refine g_iload (pc := 173) dX4_simulate_173 rfl ?_
        refine g_sipush (pc := 175) dX4_simulate_175 (by decide) ?_
        refine g_c_ge (tgt := 186) (pc := 178) dX4_simulate_178 (by omega) (by decide) (fun c178 => ?_) (fun c178 => ?_)
        · skip
          refine g_sipush (pc := 186) dX4_simulate_186 (by decide) ?_
          refine g_iadd (pc := 189) dX4_simulate_189 ?_
          refine g_iret (pc := 190) rfl dX4_simulate_190 (fun h => h) ?_
          exact df_0 (by unfold xc_si; rw [if_neg (by omega)]) (by unfold siv mn9; rw [if_pos (show  (wr (s_co (its (n_st ν) x m.toNat) - s_co (n_st ν))) < 999 by omega), if_neg (show ¬ (wr (s_te (its (n_st ν) x m.toNat) - s_te (n_st ν))) < 999 by omega)]) (nw rfl)
        · skip
          refine g_iload (pc := 181) dX4_simulate_181 rfl ?_
          refine g_goto (tgt := 189) (pc := 183) dX4_simulate_183 (by decide) ?_
          refine g_iadd (pc := 189) dX4_simulate_189 ?_
          refine g_iret (pc := 190) rfl dX4_simulate_190 (fun h => h) ?_
          exact df_0 (by unfold xc_si; rw [if_neg (by omega)]) (by unfold siv mn9; rw [if_pos (show  (wr (s_co (its (n_st ν) x m.toNat) - s_co (n_st ν))) < 999 by omega), if_pos (show  (wr (s_te (its (n_st ν) x m.toNat) - s_te (n_st ν))) < 999 by omega)]) (nw rfl)
    · intro k hk ih
      have hi := inv_its hi9 x k
      show G _ _ _ _ _ _ _ _ _ _ _
      refine g_iload (pc := 47) dX4_simulate_47 rfl ?_
      refine g_iload_n (i := 3) (pc := 49) dX4_simulate_49 rfl rfl ?_
      refine g_c_ge (tgt := 106) (pc := 50) dX4_simulate_50 (by omega) (by decide) (fun c50 => absurd c50 (by omega)) (fun c50 => ?_)
      refine g_lload (pc := 53) dX4_simulate_53 rfl ?_
      refine g_ldc2 (n := 6364136223846793005) (pc := 55) co_X4_226 dX4_simulate_55 rfl ?_
      refine g_lmul (pc := 58) dX4_simulate_58 ?_
      refine g_ldc2 (n := 1442695040888963407) (pc := 59) co_X4_228 dX4_simulate_59 rfl ?_
      refine g_ladd (pc := 62) dX4_simulate_62 ?_
      refine g_lstore (pc := 63) dX4_simulate_63 (by decide) rfl ?_
      simp only [List.set_cons_succ, List.set_cons_zero]
      refine g_lload (pc := 65) dX4_simulate_65 rfl ?_
      refine g_bipush (pc := 67) dX4_simulate_67 (by decide) ?_
      refine g_lushr (pc := 69) dX4_simulate_69 ?_
      refine g_l2i (pc := 70) dX4_simulate_70 ?_
      refine G.eqS (v' := vI (b_ushrL (sx x (k + 1)) 33)) rfl ?_
      have h9r := shr_rng (sx x (k + 1))
      refine g_istore (pc := 71) dX4_simulate_71 (by decide) rfl ?_
      simp only [List.set_cons_succ, List.set_cons_zero]
      refine g_aload_n (i := 0) (pc := 73) dX4_simulate_73 rfl rfl ?_
      refine g_iload (pc := 74) dX4_simulate_74 rfl ?_
      refine g_bipush (pc := 76) dX4_simulate_76 (by decide) ?_
      refine g_idiv (pc := 78) dX4_simulate_78 (by omega) (by omega) ?_
      refine G.eqS (congrArg (fun z => vI z) (Int.tdiv_eq_ediv_of_nonneg (by omega))) ?_
      refine g_iconst (pc := 79) dX4_simulate_79 ?_
      refine g_irem (pc := 80) dX4_simulate_80 (by omega) (by omega) ?_
      refine G.eqS (congrArg (fun z => vI z) (Int.tmod_eq_emod_of_nonneg (by omega))) ?_
      refine g_v1 (pc := 81) okV_X4_isProcess rfl l_X4_42 dX4_simulate_81 (c_79) hc_4 (by decide) (by decide) (Nat.le_of_ble_eq_true rfl) (t_X4_isProcess (ν := n_setst (n_setsk (n_setth (ν) (0)) (n_st ν)) (its (n_st ν) x k)) hi (by omega)) rfl ?_
      simp only [Option.toList, List.cons_append, List.nil_append]
      refine G.eqS (v' := vI (b2 (hasP (its (n_st ν) x k) (((b_ushrL (sx x (k + 1)) 33) / 16 % 4))))) rfl ?_
      have bb := b2_rng (hasP (its (n_st ν) x k) (((b_ushrL (sx x (k + 1)) 33) / 16 % 4)))
      refine g_z_eq (tgt := 100) (pc := 84) dX4_simulate_84 (by omega) (by decide) (fun c84 => ?_) (fun c84 => ?_)
      · skip
        refine g_iinc (pc := 100) dX4_simulate_100 rfl (by decide) rfl ?_
        simp only [List.set_cons_succ, List.set_cons_zero]
        refine g_goto (tgt := 47) (pc := 103) dX4_simulate_103 (by decide) ?_
        refine G.drop 7 ?_
        simp only [List.set_cons_succ, List.set_cons_zero]
        refine G.eqw (w' := cW κ (dE (n_setst (n_setsk (n_setth (ν) (0)) (n_st ν)) (its (n_st ν) x (k + 1)))) o) (congrArg (fun z => cW κ (dE (n_setst (n_setsk (n_setth (ν) (0)) (n_st ν)) z)) o) ?_) ih
        show _ = sT (its (n_st ν) x k) (b_ushrL (sx x (k + 1)) 33)
        unfold sT
        rw [if_neg (b2_0.mp (show b2 (hasP (its (n_st ν) x k) ((b_ushrL (sx x (k + 1)) 33) / 16 % 4)) = 0 by omega))]
      · skip
        have h_hp := b2_1.mp (show b2 (hasP (its (n_st ν) x k) ((b_ushrL (sx x (k + 1)) 33) / 16 % 4)) = 1 by omega)
        refine g_aload_n (i := 0) (pc := 87) dX4_simulate_87 rfl rfl ?_
        refine g_iload (pc := 88) dX4_simulate_88 rfl ?_
        refine g_bipush (pc := 90) dX4_simulate_90 (by decide) ?_
        refine g_idiv (pc := 92) dX4_simulate_92 (by omega) (by omega) ?_
        refine G.eqS (congrArg (fun z => vI z) (Int.tdiv_eq_ediv_of_nonneg (by omega))) ?_
        refine g_iconst (pc := 93) dX4_simulate_93 ?_
        refine g_irem (pc := 94) dX4_simulate_94 (by omega) (by omega) ?_
        refine G.eqS (congrArg (fun z => vI z) (Int.tmod_eq_emod_of_nonneg (by omega))) ?_
        refine g_iload (pc := 95) dX4_simulate_95 rfl ?_
        refine g_v2 (pc := 97) okV_X4_step rfl l_X4_230 dX4_simulate_97 (c_79) hc_4 (by decide) (by decide) (Nat.le_of_ble_eq_true rfl) (t_X4_step (ν := n_setst (n_setsk (n_setth (ν) (0)) (n_st ν)) (its (n_st ν) x k)) hi (r := (b_ushrL (sx x (k + 1)) 33)) h9r h_hp) (by rw [c_len, c_len]) ?_
        simp only [Option.toList, List.cons_append, List.nil_append]
        refine G.eqw (w' := cW κ (dE (n_setst (n_setsk (n_setth (ν) (0)) (n_st ν)) (its (n_st ν) x (k + 1)))) o) rfl ?_
        refine g_iinc (pc := 100) dX4_simulate_100 rfl (by decide) rfl ?_
        simp only [List.set_cons_succ, List.set_cons_zero]
        refine g_goto (tgt := 47) (pc := 103) dX4_simulate_103 (by decide) ?_
        refine G.drop 7 ?_
        simp only [List.set_cons_succ, List.set_cons_zero]
        exact ih
end ME
