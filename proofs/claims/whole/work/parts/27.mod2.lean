/-! THE REFERENCE, what it does (printed by wip/whole/mod2.py, but for the first rows) -/
section MB
theorem ba_up (F G : Nat → Int) (f t k : Nat) : va_up (fun j => if t ≤ j ∧ j < t + k then F (f + (j - t)) else G j) ((t : Int) + k).toNat (F ((f : Int) + k).toNat) = fun j => if t ≤ j ∧ j < t + (k + 1) then F (f + (j - t)) else G j := by
  funext j
  unfold va_up
  by_cases h : j = ((t : Int) + k).toNat
  · rw [if_pos h, if_pos (by omega), show f + (j - t) = ((f : Int) + k).toNat by omega]
  · rw [if_neg h]
    show (if t ≤ j ∧ j < t + k then F (f + (j - t)) else G j) = _
    by_cases q : t ≤ j ∧ j < t + k
    · rw [if_pos q, if_pos (by omega)]
    · rw [if_neg q, if_neg (by omega)]
theorem addco_0 (σ : SG) : s_addco σ 0 = σ := by unfold s_addco; rw [Int.add_zero]
theorem addfa_0 (σ : SG) : s_addfa σ 0 = σ := by unfold s_addfa; rw [Int.add_zero]
theorem oc_0 {σ : SG} {p v : Int} (h : oc σ p v = 0) : fo σ p v ≠ -1 := by
  intro q
  unfold oc at h
  rw [if_neg (show ¬ (fo σ p v ≠ -1 ∧ ¬ sh σ (fo σ p v) = true) from fun z => z.1 q)] at h
  (repeat' split at h) <;> first | omega | contradiction
theorem oc_n {σ : SG} {p v : Int} (h : oc σ p v ≠ -1) (h0 : oc σ p v ≠ 0) : lsf σ ≠ -1 := by
  intro q
  have k := (lsf_nff σ).mp q
  unfold oc at h h0
  by_cases hp : hasPg σ p v = true
  · rw [if_pos hp] at h h0
    by_cases h1 : fo σ p v ≠ -1 ∧ ¬ sh σ (fo σ p v) = true
    · rw [if_pos h1] at h0
      exact h0 rfl
    · rw [if_neg h1, if_pos k] at h
      exact h rfl
  · rw [if_neg hp] at h
    exact h rfl
theorem oc_b {σ : SG} {p v : Int} (h2 : 2 ≤ oc σ p v) : (oc σ p v = 3 ↔ big σ p (v.tdiv 4) = true) := by
  unfold oc at h2 ⊢
  split at h2
  · rename_i hp
    rw [if_pos hp]
    split at h2
    · omega
    · rename_i h1
      rw [if_neg h1]
      split at h2
      · omega
      · rename_i h3
        rw [if_neg h3]
        split at h2
        · omega
        · rename_i h4
          rw [if_neg h4]
          by_cases b : big σ p (v.tdiv 4) = true
          · rw [if_pos b]; exact ⟨fun _ => b, fun _ => rfl⟩
          · rw [if_neg b]; exact ⟨fun z => by omega, fun z => absurd z b⟩
  · omega
theorem wh_in (σ : SG) {p g : Int} (r : Int) (hp : 0 ≤ p ∧ p < 4) (hg : 0 ≤ g ∧ g < 4) : ∀ {j i : Nat}, j ≤ 4 → i < j → s_fr (s_wh σ p g r j) (16 * p + (4 * g + i)).toNat = 4 * r + i
  | 0, i, _, h => absurd h (Nat.not_lt_zero i)
  | j + 1, i, h4, h => by
    show va_up (s_fr (s_wh σ p g r j)) (16 * p + (4 * g + j)).toNat (4 * r + j) _ = _
    by_cases q : i = j
    · subst q
      exact up_s _ _ _
    · rw [up_n (by omega)]
      exact wh_in σ r hp hg (by omega) (by omega)
theorem fo_setfr {σ : SG} {p v x : Int} (hp : 0 ≤ p ∧ p < 4) (hv : 0 ≤ v ∧ v < 16) : fo (s_setfr σ (16 * p + v).toNat x) p v = x := by
  rw [fo_in hp hv]
  exact up_s _ _ _
theorem emp_uv {σ : SG} {k : Nat} (hk : k < 64) : emp σ (s_fr σ k) = (decide (uo σ ((k / 16 : Nat) : Int) ((k % 16 : Nat) : Int) = 1) && decide (vo σ ((k / 16 : Nat) : Int) ((k % 16 : Nat) : Int) = 0)) := by
  have e : fo σ ((k / 16 : Nat) : Int) ((k % 16 : Nat) : Int) = s_fr σ k := by
    rw [fo_in (by omega) (by omega), show (16 * ((k / 16 : Nat) : Int) + ((k % 16 : Nat) : Int)).toNat = k by omega]
  unfold emp uo vo
  rw [e]
  by_cases q : s_fr σ k = -1
  · rw [if_pos q, if_pos q]
    simp [q]
  · rw [if_neg q, if_neg q]
    simp [q]
theorem emp_pz {σ : SG} (hi : Inv σ) {k : Nat} (hk : k < 16) (h : ps σ ((k / 4 : Nat) : Int) ((k % 4 : Nat) : Int) = 0) : ct (fun i => emp σ (s_fr σ (4 * k + i))) 4 = pz σ ((k / 4 : Nat) : Int) ((k % 4 : Nat) : Int) := by
  refine ct_cong (fun i hi4 => ?_)
  have e : fo σ ((k / 4 : Nat) : Int) (4 * ((k % 4 : Nat) : Int) + i) = s_fr σ (4 * k + i) := by
    rw [fo_in (by omega) (by omega), show (16 * ((k / 4 : Nat) : Int) + (4 * ((k % 4 : Nat) : Int) + i)).toNat = 4 * k + i by omega]
  have hs := ct_zero.mp h i hi4
  rw [e] at hs
  unfold emp vo
  rw [e]
  have hu := uses_pos (fr := s_fr σ) (k := 4 * k + i) (g := s_fr σ (4 * k + i)) (by omega) rfl
  by_cases q : s_fr σ (4 * k + i) = -1
  · rw [if_pos q]
    simp [q]
  · rw [if_neg q]
    have h1 : uses (s_fr σ) (s_fr σ (4 * k + i)) = 1 := by
      unfold sh at hs
      rw [decide_eq_true_eq] at hs
      omega
    rw [h1]
    simp [q]
/-! pressure ends -/
def mus (σ : SG) : Int := ct (fun k => decide (s_fr σ k ≠ -1)) 64 + nbg σ
theorem mus_rng (σ : SG) : 0 ≤ mus σ ∧ mus σ ≤ 80 := by
  have h1 := ct_rng (fun k => decide (s_fr σ k ≠ -1)) 64
  have h2 := nbg_rng σ
  unfold mus
  omega
theorem mus_los {σ : SG} (h : li σ ≠ -1) : mus (s_los σ) = mus σ - 1 := by
  rcases ff_cases (fun k => !(big σ ((k / 16 : Nat) : Int) ((k % 16 / 4 : Nat) : Int)) && decide (uo σ ((k / 16 : Nat) : Int) ((k % 16 : Nat) : Int) = 1) && decide (vo σ ((k / 16 : Nat) : Int) ((k % 16 : Nat) : Int) = 0)) 64 with ⟨h1, -⟩ | ⟨k, h1, h2, h3, -⟩
  · exact absurd h1 h
  · have h4 : li σ = k := h1
    rw [Bool.and_assoc, ← emp_uv h2, Bool.and_eq_true] at h3
    have h5 := (of_decide_eq_true h3.2).1
    have h6 := ct_upd (p := fun j => decide (s_fr σ j ≠ -1)) (q := fun j => decide (va_up (s_fr σ) k (-1) j ≠ -1)) (i := k) (n := 64) h2 (fun j hj => by simp only [up_n hj])
    simp only [up_s, decide_eq_true_eq] at h6
    rw [if_pos h5, if_neg (by simp)] at h6
    show ct (fun j => decide (va_up (s_fr σ) (li σ).toNat (-1) j ≠ -1)) 64 + nbg σ = mus σ - 1
    rw [h4, Int.toNat_natCast]
    unfold mus
    omega
theorem tb_big (σ : SG) : ∀ k : Nat, (tb σ k).1 ≠ -1 → big σ ((tb σ k).1 / 4) ((tb σ k).1 % 4) = true
  | 0, h => absurd rfl h
  | k + 1, h => by
    rw [tb] at h ⊢
    split
    · rename_i q
      exact q.1
    · rename_i q
      rw [if_neg q] at h
      exact tb_big σ k h
theorem mus_ter {σ : SG} (h : (tb σ 16).1 ≠ -1) : mus (s_ter σ) = mus σ - 1 := by
  have h1 := tb_rng σ 16
  have h3 := (of_decide_eq_true (tb_big σ 16 h)).2.2.2.2
  have e : (4 * ((tb σ 16).1 / 4) + (tb σ 16).1 % 4).toNat = (tb σ 16).1.toNat := by omega
  rw [e] at h3
  have h6 := ct_upd (p := fun j => decide (s_bg σ j = 1)) (q := fun j => decide (va_up (s_bg σ) (tb σ 16).1.toNat 0 j = 1)) (i := (tb σ 16).1.toNat) (n := 16) (by omega) (fun j hj => by simp only [up_n hj])
  simp only [up_s, decide_eq_true_eq] at h6
  rw [if_pos h3, if_neg (by decide)] at h6
  show ct (fun k => decide (s_fr σ k ≠ -1)) 64 + ct (fun j => decide (va_up (s_bg σ) (4 * ((tb σ 16).1 / 4) + (tb σ 16).1 % 4).toNat 0 j = 1)) 16 = mus σ - 1
  rw [e]
  unfold mus nbg
  omega
theorem s_ext_end (σ : SG) (p : Int) : nff (s_end σ p) = nff (s_le σ p 16) := by
  have e : ∀ j, s_fr (s_ls (s_le σ p 16) p j) = s_fr (s_le σ p 16) := fun j => ls_fr _ p j
  show nff (s_setex (s_ls (s_le σ p 16) p 4) p.toNat 0) = _
  unfold nff
  show ct (fun f => decide (uses (s_fr (s_ls (s_le σ p 16) p 4)) f = 0)) 32 = _
  rw [e 4]
set_option maxRecDepth 20000 in
set_option maxHeartbeats 4000000 in
theorem t_X4_copy {w : List MC} {a b f t na nb : Nat} {F H9 : Nat → Int} {al : Bool} (ha : w[a]? = some (cArr 0 na F)) (hb : w[b]? = some (cArr 0 nb H9)) (hab : a ≠ b) (hf : f + 121 ≤ na ∧ na < 2000) (ht : t + 121 ≤ nb ∧ nb < 2000) : GM M_X4_copy al [vR a, vI (f : Int), vR b, vI (t : Int)] (w) 0 0 (dt none (w.set b (cArr 0 nb (cp121 F H9 f t)))) := by
  show G _ none _ _ 0 [some (vR a), some (vI (f : Int)), some (vR b), some (vI (t : Int)), none] [] _ _ _ _
  have hbl : b < w.length := (List.getElem?_eq_some_iff.mp hb).1
  refine g_iconst (pc := 0) dX4_copy_0 ?_
  refine g_istore (pc := 1) dX4_copy_1 (by decide) rfl ?_
  simp only [List.set_cons_succ, List.set_cons_zero]
  refine G.eqw (w' := w.set b (cArr 0 nb (fun j => if t ≤ j ∧ j < t + 0 then F (f + (j - t)) else H9 j))) ?_ ?_
  · apply List.ext_getElem?
    intro j
    by_cases q : b = j
    · subst q
      rw [List.getElem?_set_self hbl, hb]
      refine congrArg (fun z => some (cArr 0 nb z)) ?_
      funext j
      rw [if_neg (by omega)]
    · rw [List.getElem?_set_ne q]
  refine lp_up (P := fun k => G M_X4_copy none al al 3 [some (vR a), some (vI (f : Int)), some (vR b), some (vI (t : Int)), some (vI k)] [] (w.set b (cArr 0 nb (fun j => if t ≤ j ∧ j < t + k then F (f + (j - t)) else H9 j))) 0 0 (dt none (w.set b (cArr 0 nb (cp121 F H9 f t))))) 121 ?_ ?_ 0 (Nat.zero_le _)
  · show G _ _ _ _ _ _ _ _ _ _ _
    refine g_iload (pc := 3) dX4_copy_3 rfl ?_
    refine g_bipush (pc := 5) dX4_copy_5 (by decide) ?_
    refine g_c_ge (tgt := 28) (pc := 7) dX4_copy_7 (by omega) (by decide) (fun c7 => ?_) (fun c7 => absurd c7 (by omega))
    refine g_vret (pc := 28) rfl dX4_copy_28 (fun h => h) ?_
    exact dt_v rfl
  · intro k hk ih
    have hbl0 := hbl
    have hbl : b < (w.set b (cArr 0 nb (fun j => if t ≤ j ∧ j < t + k then F (f + (j - t)) else H9 j))).length := by rw [List.length_set]; exact hbl0
    show G _ _ _ _ _ _ _ _ _ _ _
    refine g_iload (pc := 3) dX4_copy_3 rfl ?_
    refine g_bipush (pc := 5) dX4_copy_5 (by decide) ?_
    refine g_c_ge (tgt := 28) (pc := 7) dX4_copy_7 (by omega) (by decide) (fun c7 => absurd c7 (by omega)) (fun c7 => ?_)
    refine g_aload_n (i := 2) (pc := 10) dX4_copy_10 rfl rfl ?_
    refine g_iload_n (i := 3) (pc := 11) dX4_copy_11 rfl rfl ?_
    refine g_iload (pc := 12) dX4_copy_12 rfl ?_
    refine g_iadd (pc := 14) dX4_copy_14 ?_
    refine g_aload_n (i := 0) (pc := 15) dX4_copy_15 rfl rfl ?_
    refine g_iload_n (i := 1) (pc := 16) dX4_copy_16 rfl rfl ?_
    refine g_iload (pc := 17) dX4_copy_17 rfl ?_
    refine g_iadd (pc := 19) dX4_copy_19 ?_
    refine g_iald (pc := 20) dX4_copy_20 (by rw [List.getElem?_set_ne (fun h => hab h.symm)]; exact ha) (by omega) ?_
    refine g_iast (pc := 21) dX4_copy_21 (List.getElem?_set_self hbl0) (by omega) ?_
    refine G.eqw (List.set_set ..) ?_
    refine g_iinc (pc := 22) dX4_copy_22 rfl (by decide) rfl ?_
    simp only [List.set_cons_succ, List.set_cons_zero]
    refine g_goto (tgt := 3) (pc := 25) dX4_copy_25 (by decide) ?_
    refine G.eqw (congrArg (fun z => w.set b (cArr 0 nb z)) (ba_up F H9 f t k)) ih
set_option maxRecDepth 20000 in
set_option maxHeartbeats 4000000 in
theorem t_X4_renew {κ : KT} {ν : NT} {o : Nat → Int} {al : Bool} : GM M_X4_renew al [vR 79] (cW κ (dE ν) o) 0 0 (dt none (cW κ (dE (n_setst ν s_new)) o)) := by
  show G _ none _ _ 0 [some (vR 79), none] [] _ _ _ _
  refine g_iconst (pc := 0) dX4_renew_0 ?_
  refine g_istore_n (i := 1) (pc := 1) dX4_renew_1 rfl (by decide) rfl ?_
  simp only [List.set_cons_succ, List.set_cons_zero]
  refine G.eqw (w' := cW κ (d_setst (dE ν) (fun j => if j < 0 then 0 else enc (n_st ν) j)) o) (by rw [fil_0]; rfl) ?_
  refine lp_up (P := fun k => G M_X4_renew none al al 2 [some (vR 79), some (vI k)] [] (cW κ (d_setst (dE ν) (fun j => if j < k then 0 else enc (n_st ν) j)) o) 0 0 (dt none (cW κ (dE (n_setst ν s_new)) o))) 121 ?_ ?_ 0 (Nat.zero_le _)
  · show G _ _ _ _ _ _ _ _ _ _ _
    refine g_iload_n (i := 1) (pc := 2) dX4_renew_2 rfl rfl ?_
    refine g_bipush (pc := 3) dX4_renew_3 (by decide) ?_
    refine g_c_ge (tgt := 21) (pc := 5) dX4_renew_5 (by omega) (by decide) (fun c5 => ?_) (fun c5 => absurd c5 (by omega))
    refine g_iconst (pc := 21) dX4_renew_21 ?_
    refine g_istore_n (i := 1) (pc := 22) dX4_renew_22 rfl (by decide) rfl ?_
    simp only [List.set_cons_succ, List.set_cons_zero]
    refine G.eqw (w' := cW κ (d_setst (dE ν) (fun j => if 4 ≤ j ∧ j < 4 + 0 then -1 else 0)) o) (congrArg (fun f => cW κ (d_setst (dE ν) f) o) ?_) ?_
    · funext j
      rw [if_neg (show ¬ (4 ≤ j ∧ j < 4 + 0) by omega)]
      by_cases q : j < 121
      · rw [if_pos q]
      · rw [if_neg q, enc_out (by omega)]
    refine lp_up (P := fun k => G M_X4_renew none al al 23 [some (vR 79), some (vI k)] [] (cW κ (d_setst (dE ν) (fun j => if 4 ≤ j ∧ j < 4 + k then -1 else 0)) o) 0 0 (dt none (cW κ (dE (n_setst ν s_new)) o))) 64 ?_ ?_ 0 (Nat.zero_le _)
    · show G _ _ _ _ _ _ _ _ _ _ _
      refine g_iload_n (i := 1) (pc := 23) dX4_renew_23 rfl rfl ?_
      refine g_bipush (pc := 24) dX4_renew_24 (by decide) ?_
      refine g_c_ge (tgt := 44) (pc := 26) dX4_renew_26 (by omega) (by decide) (fun c26 => ?_) (fun c26 => absurd c26 (by omega))
      refine g_aload_n (i := 0) (pc := 44) dX4_renew_44 rfl rfl ?_
      refine g_getf (pc := 45) f_X4_7 dX4_renew_45 (c_79) rfl ?_
      refine g_iconst (pc := 48) dX4_renew_48 ?_
      refine g_iconst (pc := 49) dX4_renew_49 ?_
      refine g_iast (pc := 50) dX4_renew_50 c_80 (by omega) ?_
      refine G.eqw w_st ?_
      refine g_vret (pc := 51) rfl dX4_renew_51 (fun h => h) ?_
      refine dt_v (congrArg (fun f => cW κ (d_setst (dE ν) f) o) ?_)
      show va_up (fun j => if 4 ≤ j ∧ j < 4 + 64 then (-1 : Int) else 0) 0 1 = enc s_new
      funext j
      unfold va_up enc
      by_cases q : j = 0
      · subst q
        rfl
      · rw [if_neg q]
        show (if 4 ≤ j ∧ j < 4 + 64 then (-1 : Int) else 0) = _
        by_cases a : j < 4
        · rw [if_neg (by omega), if_pos a]
          show 0 = (if j = 0 then (1 : Int) else 0)
          rw [if_neg q]
        · rw [if_neg a]
          by_cases b : j < 68
          · rw [if_pos (by omega), if_pos b]
            show -1 = (if j - 4 < 64 then (-1 : Int) else 0)
            rw [if_pos (by omega)]
          · rw [if_neg (by omega), if_neg b]
            (repeat' split) <;> rfl
    · intro k hk ih
      show G _ _ _ _ _ _ _ _ _ _ _
      refine g_iload_n (i := 1) (pc := 23) dX4_renew_23 rfl rfl ?_
      refine g_bipush (pc := 24) dX4_renew_24 (by decide) ?_
      refine g_c_ge (tgt := 44) (pc := 26) dX4_renew_26 (by omega) (by decide) (fun c26 => absurd c26 (by omega)) (fun c26 => ?_)
      refine g_aload_n (i := 0) (pc := 29) dX4_renew_29 rfl rfl ?_
      refine g_getf (pc := 30) f_X4_7 dX4_renew_30 (c_79) rfl ?_
      refine g_iconst (pc := 33) dX4_renew_33 ?_
      refine g_iload_n (i := 1) (pc := 34) dX4_renew_34 rfl rfl ?_
      refine g_iadd (pc := 35) dX4_renew_35 ?_
      refine g_iconst (pc := 36) dX4_renew_36 ?_
      refine g_iast (pc := 37) dX4_renew_37 c_80 (by omega) ?_
      refine G.eqw w_st ?_
      refine G.eqw (w' := cW κ (d_setst (dE ν) (fun j => if 4 ≤ j ∧ j < 4 + (k + 1) then -1 else 0)) o) (congrArg (fun f => cW κ (d_setst (dE ν) f) o) ?_) ?_
      · funext j
        unfold va_up
        by_cases q : j = (4 + (k : Int)).toNat
        · rw [if_pos q, if_pos (by omega)]
        · rw [if_neg q]
          show (if 4 ≤ j ∧ j < 4 + k then (-1 : Int) else 0) = _
          by_cases z : 4 ≤ j ∧ j < 4 + k
          · rw [if_pos z, if_pos (by omega)]
          · rw [if_neg z, if_neg (by omega)]
      refine g_iinc (pc := 38) dX4_renew_38 rfl (by decide) rfl ?_
      simp only [List.set_cons_succ, List.set_cons_zero]
      refine g_goto (tgt := 23) (pc := 41) dX4_renew_41 (by decide) ?_
      exact ih
  · intro k hk ih
    show G _ _ _ _ _ _ _ _ _ _ _
    refine g_iload_n (i := 1) (pc := 2) dX4_renew_2 rfl rfl ?_
    refine g_bipush (pc := 3) dX4_renew_3 (by decide) ?_
    refine g_c_ge (tgt := 21) (pc := 5) dX4_renew_5 (by omega) (by decide) (fun c5 => absurd c5 (by omega)) (fun c5 => ?_)
    refine g_aload_n (i := 0) (pc := 8) dX4_renew_8 rfl rfl ?_
    refine g_getf (pc := 9) f_X4_7 dX4_renew_9 (c_79) rfl ?_
    refine g_iload_n (i := 1) (pc := 12) dX4_renew_12 rfl rfl ?_
    refine g_iconst (pc := 13) dX4_renew_13 ?_
    refine g_iast (pc := 14) dX4_renew_14 c_80 (by omega) ?_
    refine G.eqw w_st ?_
    refine G.eqw (congrArg (fun f => cW κ (d_setst (dE ν) f) o) (fil_up (enc (n_st ν)) 0 k)) ?_
    refine g_iinc (pc := 15) dX4_renew_15 rfl (by decide) rfl ?_
    simp only [List.set_cons_succ, List.set_cons_zero]
    refine g_goto (tgt := 2) (pc := 18) dX4_renew_18 (by decide) ?_
    exact ih
set_option maxRecDepth 20000 in
set_option maxHeartbeats 4000000 in
theorem t_X4_makeBig {κ : KT} {ν : NT} {o : Nat → Int} {al : Bool} (hi : Inv (n_st ν)) {p g : Int} (h_p : 0 ≤ p ∧ p < 4) (h_g : 0 ≤ g ∧ g < 4) (h_e : s_ex (n_st ν) p.toNat = 1) (h_l : lfr (n_st ν) ≠ -1) : GM M_X4_makeBig al [vR 79, vI p, vI g] (cW κ (dE ν) o) 0 0 (dt none (cW κ (dE (n_setst ν (s_who (n_st ν) p g (lfr (n_st ν))))) o)) := by
  show G _ none _ _ 0 [some (vR 79), some (vI p), some (vI g), none, none] [] _ _ _ _
  refine g_aload_n (i := 0) (pc := 0) dX4_makeBig_0 rfl rfl ?_
  refine g_v0 (pc := 1) okV_X4_freeRun rfl l_X4_73 dX4_makeBig_1 (c_79) hc_4 (by decide) (by decide) (Nat.le_of_ble_eq_true rfl) (t_X4_freeRun hi) rfl ?_
  simp only [Option.toList, List.cons_append, List.nil_append]
  have bb := lfr_rng (n_st ν)
  have hi9 := hi
  refine g_istore_n (i := 3) (pc := 4) dX4_makeBig_4 rfl (by decide) rfl ?_
  simp only [List.set_cons_succ, List.set_cons_zero]
  refine g_iconst (pc := 5) dX4_makeBig_5 ?_
  refine g_istore (pc := 6) dX4_makeBig_6 (by decide) rfl ?_
  simp only [List.set_cons_succ, List.set_cons_zero]
  refine lp_up (P := fun k => G M_X4_makeBig none al al 8 [some (vR 79), some (vI p), some (vI g), some (vI (lfr (n_st ν))), some (vI k)] [] (cW κ (dE (n_setst ν (s_wh (n_st ν) p g (lfr (n_st ν)) k))) o) 0 0 (dt none (cW κ (dE (n_setst ν (s_who (n_st ν) p g (lfr (n_st ν))))) o))) 4 ?_ ?_ 0 (Nat.zero_le _)
  · have hi := inv_wh hi9 (p := p) (g := g) (r := lfr (n_st ν)) ⟨h_p.1, h_p.2, h_e⟩ h_g (by omega) 4 (by omega)
    show G _ _ _ _ _ _ _ _ _ _ _
    refine g_iload (pc := 8) dX4_makeBig_8 rfl ?_
    refine g_iconst (pc := 10) dX4_makeBig_10 ?_
    refine g_c_ge (tgt := 52) (pc := 11) dX4_makeBig_11 (by omega) (by decide) (fun c11 => ?_) (fun c11 => absurd c11 (by omega))
    refine g_aload_n (i := 0) (pc := 52) dX4_makeBig_52 rfl rfl ?_
    refine g_iload_n (i := 1) (pc := 53) dX4_makeBig_53 rfl rfl ?_
    refine g_iload_n (i := 2) (pc := 54) dX4_makeBig_54 rfl rfl ?_
    refine g_iconst (pc := 55) dX4_makeBig_55 ?_
    refine g_v3 (pc := 56) okV_X4_setBig rfl l_X4_87 dX4_makeBig_56 (c_79) hc_4 (by decide) (by decide) (Nat.le_of_ble_eq_true rfl) (t_X4_setBig hi (by omega) (by omega) (by omega)) (by rw [c_len, c_len]) ?_
    simp only [Option.toList, List.cons_append, List.nil_append]
    refine g_vret (pc := 59) rfl dX4_makeBig_59 (fun h => h) ?_
    exact dt_v rfl
  · intro k hk ih
    have hi := inv_wh hi9 (p := p) (g := g) (r := lfr (n_st ν)) ⟨h_p.1, h_p.2, h_e⟩ h_g (by omega) k (by omega)
    show G _ _ _ _ _ _ _ _ _ _ _
    refine g_iload (pc := 8) dX4_makeBig_8 rfl ?_
    refine g_iconst (pc := 10) dX4_makeBig_10 ?_
    refine g_c_ge (tgt := 52) (pc := 11) dX4_makeBig_11 (by omega) (by decide) (fun c11 => absurd c11 (by omega)) (fun c11 => ?_)
    refine g_aload_n (i := 0) (pc := 14) dX4_makeBig_14 rfl rfl ?_
    refine g_iload_n (i := 1) (pc := 15) dX4_makeBig_15 rfl rfl ?_
    refine g_iconst (pc := 16) dX4_makeBig_16 ?_
    refine g_iload_n (i := 2) (pc := 17) dX4_makeBig_17 rfl rfl ?_
    refine g_imul (pc := 18) dX4_makeBig_18 ?_
    refine g_iload (pc := 19) dX4_makeBig_19 rfl ?_
    refine g_iadd (pc := 21) dX4_makeBig_21 ?_
    refine g_iconst (pc := 22) dX4_makeBig_22 ?_
    refine g_iload_n (i := 3) (pc := 23) dX4_makeBig_23 rfl rfl ?_
    refine g_imul (pc := 24) dX4_makeBig_24 ?_
    refine g_iload (pc := 25) dX4_makeBig_25 rfl ?_
    refine g_iadd (pc := 27) dX4_makeBig_27 ?_
    refine g_v3 (pc := 28) okV_X4_setFrame rfl l_X4_83 dX4_makeBig_28 (c_79) hc_4 (by decide) (by decide) (Nat.le_of_ble_eq_true rfl) (t_X4_setFrame hi (by omega) (by omega) (by omega)) (by rw [c_len, c_len]) ?_
    simp only [Option.toList, List.cons_append, List.nil_append]
    refine g_aload_n (i := 0) (pc := 31) dX4_makeBig_31 rfl rfl ?_
    refine g_getf (pc := 32) f_X4_7 dX4_makeBig_32 (c_79) rfl ?_
    refine g_bipush (pc := 35) dX4_makeBig_35 (by decide) ?_
    refine g_iconst (pc := 37) dX4_makeBig_37 ?_
    refine g_iload_n (i := 3) (pc := 38) dX4_makeBig_38 rfl rfl ?_
    refine g_imul (pc := 39) dX4_makeBig_39 ?_
    refine g_iadd (pc := 40) dX4_makeBig_40 ?_
    refine g_iload (pc := 41) dX4_makeBig_41 rfl ?_
    refine g_iadd (pc := 43) dX4_makeBig_43 ?_
    refine g_iconst (pc := 44) dX4_makeBig_44 ?_
    refine g_iast (pc := 45) dX4_makeBig_45 c_80 (by omega) ?_
    refine G.eqw (w4_va (k := (4 * lfr (n_st ν) + k).toNat) (by omega) (by omega)) ?_
    refine g_iinc (pc := 46) dX4_makeBig_46 rfl (by decide) rfl ?_
    simp only [List.set_cons_succ, List.set_cons_zero]
    refine g_goto (tgt := 8) (pc := 49) dX4_makeBig_49 (by decide) ?_
    exact ih
set_option maxRecDepth 20000 in
set_option maxHeartbeats 4000000 in
theorem t_X4_written {κ : KT} {ν : NT} {o : Nat → Int} {al : Bool} (hi : Inv (n_st ν)) {p v x : Int} (h_pg : hasPg (n_st ν) p v = true) (h_o : oc (n_st ν) p v ≠ -1) (h_x : 0 ≤ x ∧ x < 100) : GM M_X4_written al [vR 79, vI p, vI v, vI x] (cW κ (dE ν) o) 0 0 (dt (some (vI (oc (n_st ν) p v))) (cW κ (dE (n_setst ν (s_wri (n_st ν) p v x))) o)) := by
  show G _ none _ _ 0 [some (vR 79), some (vI p), some (vI v), some (vI x), none] [] _ _ _ _
  obtain ⟨⟨h_p1, h_p2, h_e⟩, h_v1, h_v2⟩ := ex_pg h_pg
  have d9 := Int.tdiv_eq_ediv_of_nonneg (a := v) (b := 4) (by omega)
  have hi9 := hi
  have hlr := lfr_rng (n_st ν)
  refine g_aload_n (i := 0) (pc := 0) dX4_written_0 rfl rfl ?_
  refine g_iload_n (i := 1) (pc := 1) dX4_written_1 rfl rfl ?_
  refine g_iload_n (i := 2) (pc := 2) dX4_written_2 rfl rfl ?_
  refine g_v2 (pc := 3) okV_X4_outcome rfl l_X4_90 dX4_written_3 (c_79) hc_4 (by decide) (by decide) (Nat.le_of_ble_eq_true rfl) (t_X4_outcome hi (by first | assumption | exact h_pg)) rfl ?_
  simp only [Option.toList, List.cons_append, List.nil_append]
  have bb := oc_rng (n_st ν) (p) (v)
  refine g_istore (pc := 6) dX4_written_6 (by decide) rfl ?_
  simp only [List.set_cons_succ, List.set_cons_zero]
  refine g_iload (pc := 8) dX4_written_8 rfl ?_
  refine g_iconst (pc := 10) dX4_written_10 ?_
  refine g_c_ne (tgt := 34) (pc := 11) dX4_written_11 (by omega) (by decide) (fun c11 => ?_) (fun c11 => ?_)
  · skip
    refine g_iload (pc := 34) dX4_written_34 rfl ?_
    refine g_z_eq (tgt := 49) (pc := 36) dX4_written_36 (by omega) (by decide) (fun c36 => ?_) (fun c36 => ?_)
    · skip
      refine g_iload (pc := 49) dX4_written_49 rfl ?_
      refine g_iconst (pc := 51) dX4_written_51 ?_
      refine g_c_ne (tgt := 75) (pc := 52) dX4_written_52 (by omega) (by decide) (fun c52 => ?_) (fun c52 => absurd c52 (by omega))
      refine g_aload_n (i := 0) (pc := 75) dX4_written_75 rfl rfl ?_
      refine g_getf (pc := 76) f_X4_7 dX4_written_76 (c_79) rfl ?_
      refine g_bipush (pc := 79) dX4_written_79 (by decide) ?_
      refine g_dup2 (pc := 81) dX4_written_81 (fun z h => nomatch h) (fun z h => nomatch h) ?_
      refine g_iald (pc := 82) dX4_written_82 (c_80) (by omega) ?_
      refine G.eqS (congrArg (fun z => vI z) (show _ = s_fa (n_st (ν)) from rfl)) ?_
      refine g_iload (pc := 83) dX4_written_83 rfl ?_
      refine g_iconst (pc := 85) dX4_written_85 ?_
      refine g_c_ne (tgt := 93) (pc := 86) dX4_written_86 (by omega) (by decide) (fun c86 => ?_) (fun c86 => absurd c86 (by omega))
      refine g_iconst (pc := 93) dX4_written_93 ?_
      refine g_iadd (pc := 94) dX4_written_94 ?_
      refine g_iast (pc := 95) dX4_written_95 c_80 (by decide) ?_
      refine G.eqw w4_fa ?_
      refine g_aload_n (i := 0) (pc := 96) dX4_written_96 rfl rfl ?_
      refine g_getf (pc := 97) f_X4_7 dX4_written_97 (c_79) rfl ?_
      refine g_bipush (pc := 100) dX4_written_100 (by decide) ?_
      refine g_dup2 (pc := 102) dX4_written_102 (fun z h => nomatch h) (fun z h => nomatch h) ?_
      refine g_iald (pc := 103) dX4_written_103 (c_80) (by omega) ?_
      refine G.eqS (congrArg (fun z => vI z) (show _ = s_co (n_st (n_setst (ν) (s_addfa (n_st (ν)) 0))) from rfl)) ?_
      refine g_iload (pc := 104) dX4_written_104 rfl ?_
      refine g_iconst (pc := 106) dX4_written_106 ?_
      refine g_c_lt (tgt := 114) (pc := 107) dX4_written_107 (by omega) (by decide) (fun c107 => ?_) (fun c107 => absurd c107 (by omega))
      refine g_iconst (pc := 114) dX4_written_114 ?_
      refine g_iadd (pc := 115) dX4_written_115 ?_
      refine g_iast (pc := 116) dX4_written_116 c_80 (by decide) ?_
      refine G.eqw w4_co ?_
      have hi : Inv (n_st (n_setst (n_setst (ν) (s_addfa (n_st (ν)) 0)) (s_addco (n_st (n_setst (ν) (s_addfa (n_st (ν)) 0))) 0))) := hi
      refine g_aload_n (i := 0) (pc := 117) dX4_written_117 rfl rfl ?_
      refine g_getf (pc := 118) f_X4_7 dX4_written_118 (c_79) rfl ?_
      refine g_bipush (pc := 121) dX4_written_121 (by decide) ?_
      refine g_aload_n (i := 0) (pc := 123) dX4_written_123 rfl rfl ?_
      refine g_iload_n (i := 1) (pc := 124) dX4_written_124 rfl rfl ?_
      refine g_iload_n (i := 2) (pc := 125) dX4_written_125 rfl rfl ?_
      refine g_v2 (pc := 126) okV_X4_frameOf rfl l_X4_53 dX4_written_126 (c_79) hc_4 (by decide) (by decide) (Nat.le_of_ble_eq_true rfl) (t_X4_frameOf hi (by omega) (by omega)) rfl ?_
      simp only [Option.toList, List.cons_append, List.nil_append]
      refine G.eqS (v' := vI (fo (s_addco (n_st (n_setst (ν) (s_addfa (n_st (ν)) 0))) 0) (p) (v))) rfl ?_
      have bb := fo_rng (σ := (s_addco (n_st (n_setst (ν) (s_addfa (n_st (ν)) 0))) 0)) hi (p) (v)
      have hf9 : fo (s_addco (n_st (n_setst (ν) (s_addfa (n_st (ν)) 0))) 0) p v ≠ -1 := by
        first
        | exact oc_0 (show oc (n_st ν) p v = 0 by omega)
        | (rw [show fo (s_addco (n_st (n_setst (ν) (s_addfa (n_st (ν)) 0))) 0) p v = lsf (n_st ν) from fo_setfr (σ := n_st ν) (x := lsf (n_st ν)) ⟨h_p1, h_p2⟩ ⟨h_v1, h_v2⟩]; exact h_n)
        | (have q1 := wh_in (n_st ν) (p := p) (g := Int.tdiv v 4) (lfr (n_st ν)) ⟨h_p1, h_p2⟩ (by omega) (j := 4) (i := (v % 4).toNat) (by omega) (by omega)
           rw [show (16 * p + (4 * (Int.tdiv v 4) + ((v % 4).toNat : Int))).toNat = (16 * p + v).toNat by omega] at q1
           rw [show fo (s_addco (n_st (n_setst (ν) (s_addfa (n_st (ν)) 0))) 0) p v = s_fr (s_wh (n_st ν) p (Int.tdiv v 4) (lfr (n_st ν)) 4) (16 * p + v).toNat from fo_in (σ := s_who (n_st ν) p (Int.tdiv v 4) (lfr (n_st ν))) ⟨h_p1, h_p2⟩ ⟨h_v1, h_v2⟩, q1]
           omega)
      refine g_iadd (pc := 129) dX4_written_129 ?_
      refine g_iload_n (i := 3) (pc := 130) dX4_written_130 rfl rfl ?_
      refine g_iast (pc := 131) dX4_written_131 c_80 (by omega) ?_
      refine G.eqw (w4_va (k := (fo (s_addco (n_st (n_setst (ν) (s_addfa (n_st (ν)) 0))) 0) p v).toNat) (by omega) (by omega)) ?_
      refine g_iload (pc := 132) dX4_written_132 rfl ?_
      refine g_iret (pc := 134) rfl dX4_written_134 (fun h => h) ?_
      have e9 : s_wri1 (n_st ν) p v = (n_st ν) := by
        unfold s_wri1
        rw [if_neg (by omega), if_pos (by omega)]
      refine dt_i rfl (Eq.trans (b := cW κ (dE (n_setst ν (s_setva (s_addco (s_addfa (n_st ν) 0) 0) (fo (n_st ν) p v).toNat x))) o) rfl (congrArg (fun z => cW κ (dE (n_setst ν z)) o) ?_))
      unfold s_wri
      rw [e9, if_neg (show ¬ fo (n_st ν) p v = -1 from hf9), addfa_0, addco_0]
      
    · skip
      have h_n := oc_n h_o (by omega)
      refine g_aload_n (i := 0) (pc := 39) dX4_written_39 rfl rfl ?_
      refine g_iload_n (i := 1) (pc := 40) dX4_written_40 rfl rfl ?_
      refine g_iload_n (i := 2) (pc := 41) dX4_written_41 rfl rfl ?_
      refine g_aload_n (i := 0) (pc := 42) dX4_written_42 rfl rfl ?_
      refine g_v0 (pc := 43) okV_X4_singleFrame rfl l_X4_80 dX4_written_43 (c_79) hc_4 (by decide) (by decide) (Nat.le_of_ble_eq_true rfl) (t_X4_singleFrame hi) rfl ?_
      simp only [Option.toList, List.cons_append, List.nil_append]
      have bb := lsf_rng (n_st ν)
      refine g_v3 (pc := 46) okV_X4_setFrame rfl l_X4_83 dX4_written_46 (c_79) hc_4 (by decide) (by decide) (Nat.le_of_ble_eq_true rfl) (t_X4_setFrame hi (by omega) (by omega) (by omega)) (by rw [c_len, c_len]) ?_
      simp only [Option.toList, List.cons_append, List.nil_append]
      have hi0 := hi
      have hi := inv_fr (k := (16 * p + v).toNat) (x := lsf (n_st ν)) hi (by omega) (by omega) (Or.inr (by rw [show (16 * p + v).toNat / 16 = p.toNat by omega]; exact h_e))
      refine g_iload (pc := 49) dX4_written_49 rfl ?_
      refine g_iconst (pc := 51) dX4_written_51 ?_
      refine g_c_ne (tgt := 75) (pc := 52) dX4_written_52 (by omega) (by decide) (fun c52 => ?_) (fun c52 => ?_)
      · skip
        refine g_aload_n (i := 0) (pc := 75) dX4_written_75 rfl rfl ?_
        refine g_getf (pc := 76) f_X4_7 dX4_written_76 (c_79) rfl ?_
        refine g_bipush (pc := 79) dX4_written_79 (by decide) ?_
        refine g_dup2 (pc := 81) dX4_written_81 (fun z h => nomatch h) (fun z h => nomatch h) ?_
        refine g_iald (pc := 82) dX4_written_82 (c_80) (by omega) ?_
        refine G.eqS (congrArg (fun z => vI z) (show _ = s_fa (n_st (n_setst (ν) (s_setfr (n_st ν) (16 * p + v).toNat ((lsf (n_st ν)))))) from rfl)) ?_
        refine g_iload (pc := 83) dX4_written_83 rfl ?_
        refine g_iconst (pc := 85) dX4_written_85 ?_
        refine g_c_ne (tgt := 93) (pc := 86) dX4_written_86 (by omega) (by decide) (fun c86 => ?_) (fun c86 => absurd c86 (by omega))
        refine g_iconst (pc := 93) dX4_written_93 ?_
        refine g_iadd (pc := 94) dX4_written_94 ?_
        refine g_iast (pc := 95) dX4_written_95 c_80 (by decide) ?_
        refine G.eqw w4_fa ?_
        refine g_aload_n (i := 0) (pc := 96) dX4_written_96 rfl rfl ?_
        refine g_getf (pc := 97) f_X4_7 dX4_written_97 (c_79) rfl ?_
        refine g_bipush (pc := 100) dX4_written_100 (by decide) ?_
        refine g_dup2 (pc := 102) dX4_written_102 (fun z h => nomatch h) (fun z h => nomatch h) ?_
        refine g_iald (pc := 103) dX4_written_103 (c_80) (by omega) ?_
        refine G.eqS (congrArg (fun z => vI z) (show _ = s_co (n_st (n_setst (n_setst (ν) (s_setfr (n_st ν) (16 * p + v).toNat ((lsf (n_st ν))))) (s_addfa (n_st (n_setst (ν) (s_setfr (n_st ν) (16 * p + v).toNat ((lsf (n_st ν)))))) 0))) from rfl)) ?_
        refine g_iload (pc := 104) dX4_written_104 rfl ?_
        refine g_iconst (pc := 106) dX4_written_106 ?_
        refine g_c_lt (tgt := 114) (pc := 107) dX4_written_107 (by omega) (by decide) (fun c107 => absurd c107 (by omega)) (fun c107 => ?_)
        refine g_iconst (pc := 110) dX4_written_110 ?_
        refine g_goto (tgt := 115) (pc := 111) dX4_written_111 (by decide) ?_
        refine g_iadd (pc := 115) dX4_written_115 ?_
        refine g_iast (pc := 116) dX4_written_116 c_80 (by decide) ?_
        refine G.eqw w4_co ?_
        have hi : Inv (n_st (n_setst (n_setst (n_setst (ν) (s_setfr (n_st ν) (16 * p + v).toNat ((lsf (n_st ν))))) (s_addfa (n_st (n_setst (ν) (s_setfr (n_st ν) (16 * p + v).toNat ((lsf (n_st ν)))))) 0)) (s_addco (n_st (n_setst (n_setst (ν) (s_setfr (n_st ν) (16 * p + v).toNat ((lsf (n_st ν))))) (s_addfa (n_st (n_setst (ν) (s_setfr (n_st ν) (16 * p + v).toNat ((lsf (n_st ν)))))) 0))) 1))) := hi
        refine g_aload_n (i := 0) (pc := 117) dX4_written_117 rfl rfl ?_
        refine g_getf (pc := 118) f_X4_7 dX4_written_118 (c_79) rfl ?_
        refine g_bipush (pc := 121) dX4_written_121 (by decide) ?_
        refine g_aload_n (i := 0) (pc := 123) dX4_written_123 rfl rfl ?_
        refine g_iload_n (i := 1) (pc := 124) dX4_written_124 rfl rfl ?_
        refine g_iload_n (i := 2) (pc := 125) dX4_written_125 rfl rfl ?_
        refine g_v2 (pc := 126) okV_X4_frameOf rfl l_X4_53 dX4_written_126 (c_79) hc_4 (by decide) (by decide) (Nat.le_of_ble_eq_true rfl) (t_X4_frameOf hi (by omega) (by omega)) rfl ?_
        simp only [Option.toList, List.cons_append, List.nil_append]
        refine G.eqS (v' := vI (fo (s_addco (n_st (n_setst (n_setst (ν) (s_setfr (n_st ν) (16 * p + v).toNat ((lsf (n_st ν))))) (s_addfa (n_st (n_setst (ν) (s_setfr (n_st ν) (16 * p + v).toNat ((lsf (n_st ν)))))) 0))) 1) (p) (v))) rfl ?_
        have bb := fo_rng (σ := (s_addco (n_st (n_setst (n_setst (ν) (s_setfr (n_st ν) (16 * p + v).toNat ((lsf (n_st ν))))) (s_addfa (n_st (n_setst (ν) (s_setfr (n_st ν) (16 * p + v).toNat ((lsf (n_st ν)))))) 0))) 1)) hi (p) (v)
        have hf9 : fo (s_addco (n_st (n_setst (n_setst (ν) (s_setfr (n_st ν) (16 * p + v).toNat ((lsf (n_st ν))))) (s_addfa (n_st (n_setst (ν) (s_setfr (n_st ν) (16 * p + v).toNat ((lsf (n_st ν)))))) 0))) 1) p v ≠ -1 := by
          first
          | exact oc_0 (show oc (n_st ν) p v = 0 by omega)
          | (rw [show fo (s_addco (n_st (n_setst (n_setst (ν) (s_setfr (n_st ν) (16 * p + v).toNat ((lsf (n_st ν))))) (s_addfa (n_st (n_setst (ν) (s_setfr (n_st ν) (16 * p + v).toNat ((lsf (n_st ν)))))) 0))) 1) p v = lsf (n_st ν) from fo_setfr (σ := n_st ν) (x := lsf (n_st ν)) ⟨h_p1, h_p2⟩ ⟨h_v1, h_v2⟩]; exact h_n)
          | (have q1 := wh_in (n_st ν) (p := p) (g := Int.tdiv v 4) (lfr (n_st ν)) ⟨h_p1, h_p2⟩ (by omega) (j := 4) (i := (v % 4).toNat) (by omega) (by omega)
             rw [show (16 * p + (4 * (Int.tdiv v 4) + ((v % 4).toNat : Int))).toNat = (16 * p + v).toNat by omega] at q1
             rw [show fo (s_addco (n_st (n_setst (n_setst (ν) (s_setfr (n_st ν) (16 * p + v).toNat ((lsf (n_st ν))))) (s_addfa (n_st (n_setst (ν) (s_setfr (n_st ν) (16 * p + v).toNat ((lsf (n_st ν)))))) 0))) 1) p v = s_fr (s_wh (n_st ν) p (Int.tdiv v 4) (lfr (n_st ν)) 4) (16 * p + v).toNat from fo_in (σ := s_who (n_st ν) p (Int.tdiv v 4) (lfr (n_st ν))) ⟨h_p1, h_p2⟩ ⟨h_v1, h_v2⟩, q1]
             omega)
        refine g_iadd (pc := 129) dX4_written_129 ?_
        refine g_iload_n (i := 3) (pc := 130) dX4_written_130 rfl rfl ?_
        refine g_iast (pc := 131) dX4_written_131 c_80 (by omega) ?_
        refine G.eqw (w4_va (k := (fo (s_addco (n_st (n_setst (n_setst (ν) (s_setfr (n_st ν) (16 * p + v).toNat ((lsf (n_st ν))))) (s_addfa (n_st (n_setst (ν) (s_setfr (n_st ν) (16 * p + v).toNat ((lsf (n_st ν)))))) 0))) 1) p v).toNat) (by omega) (by omega)) ?_
        refine g_iload (pc := 132) dX4_written_132 rfl ?_
        refine g_iret (pc := 134) rfl dX4_written_134 (fun h => h) ?_
        have e9 : s_wri1 (n_st ν) p v = (s_addco (s_setfr (n_st ν) (16 * p + v).toNat (lsf (n_st ν))) 1) := by
          unfold s_wri1
          have hb9 := oc_b (σ := n_st ν) (p := p) (v := v) (by omega)
          rw [if_neg (by omega), if_neg (by omega)]
          unfold s_cop s_tsf
          rw [if_neg (fun q => absurd (hb9.mpr q) (by omega)), if_neg h_n]
        refine dt_i rfl (Eq.trans (b := cW κ (dE (n_setst ν (s_setva (s_addco (s_addfa (s_setfr (n_st ν) (16 * p + v).toNat (lsf (n_st ν))) 0) 1) (fo (s_setfr (n_st ν) (16 * p + v).toNat (lsf (n_st ν))) p v).toNat x))) o) rfl (congrArg (fun z => cW κ (dE (n_setst ν z)) o) ?_))
        unfold s_wri
        rw [e9, if_neg (show ¬ fo (s_addco (s_setfr (n_st ν) (16 * p + v).toNat (lsf (n_st ν))) 1) p v = -1 from hf9), addfa_0]
        rfl
      · skip
        refine g_aload_n (i := 0) (pc := 55) dX4_written_55 rfl rfl ?_
        refine g_iload_n (i := 1) (pc := 56) dX4_written_56 rfl rfl ?_
        refine g_iload_n (i := 2) (pc := 57) dX4_written_57 rfl rfl ?_
        refine g_iconst (pc := 58) dX4_written_58 ?_
        refine g_idiv (pc := 59) dX4_written_59 (by omega) (by omega) ?_
        refine g_iconst (pc := 60) dX4_written_60 ?_
        refine g_v3 (pc := 61) okV_X4_setBig rfl l_X4_87 dX4_written_61 (c_79) hc_4 (by decide) (by decide) (Nat.le_of_ble_eq_true rfl) (t_X4_setBig hi (by omega) (by omega) (by omega)) (by rw [c_len, c_len]) ?_
        simp only [Option.toList, List.cons_append, List.nil_append]
        have hi0 := hi
        have hi := inv_bg (k := (4 * p + Int.tdiv v 4).toNat) (x := 0) hi (by omega) (Or.inl rfl) (Or.inl rfl)
        refine g_aload_n (i := 0) (pc := 64) dX4_written_64 rfl rfl ?_
        refine g_getf (pc := 65) f_X4_7 dX4_written_65 (c_79) rfl ?_
        refine g_bipush (pc := 68) dX4_written_68 (by decide) ?_
        refine g_dup2 (pc := 70) dX4_written_70 (fun z h => nomatch h) (fun z h => nomatch h) ?_
        refine g_iald (pc := 71) dX4_written_71 (c_80) (by omega) ?_
        refine G.eqS (congrArg (fun z => vI z) (show _ = s_te (n_st (n_setst (n_setst (ν) (s_setfr (n_st ν) (16 * p + v).toNat ((lsf (n_st ν))))) (s_setbg (s_setfr (n_st ν) (16 * p + v).toNat ((lsf (n_st ν)))) (4 * p + (Int.tdiv v 4)).toNat (0)))) from rfl)) ?_
        refine g_iconst (pc := 72) dX4_written_72 ?_
        refine g_iadd (pc := 73) dX4_written_73 ?_
        refine g_iast (pc := 74) dX4_written_74 c_80 (by decide) ?_
        refine G.eqw w4_te ?_
        refine g_aload_n (i := 0) (pc := 75) dX4_written_75 rfl rfl ?_
        refine g_getf (pc := 76) f_X4_7 dX4_written_76 (c_79) rfl ?_
        refine g_bipush (pc := 79) dX4_written_79 (by decide) ?_
        refine g_dup2 (pc := 81) dX4_written_81 (fun z h => nomatch h) (fun z h => nomatch h) ?_
        refine g_iald (pc := 82) dX4_written_82 (c_80) (by omega) ?_
        refine G.eqS (congrArg (fun z => vI z) (show _ = s_fa (n_st (n_setst (n_setst (n_setst (ν) (s_setfr (n_st ν) (16 * p + v).toNat ((lsf (n_st ν))))) (s_setbg (s_setfr (n_st ν) (16 * p + v).toNat ((lsf (n_st ν)))) (4 * p + (Int.tdiv v 4)).toNat (0))) (s_addte (n_st (n_setst (n_setst (ν) (s_setfr (n_st ν) (16 * p + v).toNat ((lsf (n_st ν))))) (s_setbg (s_setfr (n_st ν) (16 * p + v).toNat ((lsf (n_st ν)))) (4 * p + (Int.tdiv v 4)).toNat (0)))) 1))) from rfl)) ?_
        refine g_iload (pc := 83) dX4_written_83 rfl ?_
        refine g_iconst (pc := 85) dX4_written_85 ?_
        refine g_c_ne (tgt := 93) (pc := 86) dX4_written_86 (by omega) (by decide) (fun c86 => ?_) (fun c86 => absurd c86 (by omega))
        refine g_iconst (pc := 93) dX4_written_93 ?_
        refine g_iadd (pc := 94) dX4_written_94 ?_
        refine g_iast (pc := 95) dX4_written_95 c_80 (by decide) ?_
        refine G.eqw w4_fa ?_
        refine g_aload_n (i := 0) (pc := 96) dX4_written_96 rfl rfl ?_
        refine g_getf (pc := 97) f_X4_7 dX4_written_97 (c_79) rfl ?_
        refine g_bipush (pc := 100) dX4_written_100 (by decide) ?_
        refine g_dup2 (pc := 102) dX4_written_102 (fun z h => nomatch h) (fun z h => nomatch h) ?_
        refine g_iald (pc := 103) dX4_written_103 (c_80) (by omega) ?_
        refine G.eqS (congrArg (fun z => vI z) (show _ = s_co (n_st (n_setst (n_setst (n_setst (n_setst (ν) (s_setfr (n_st ν) (16 * p + v).toNat ((lsf (n_st ν))))) (s_setbg (s_setfr (n_st ν) (16 * p + v).toNat ((lsf (n_st ν)))) (4 * p + (Int.tdiv v 4)).toNat (0))) (s_addte (n_st (n_setst (n_setst (ν) (s_setfr (n_st ν) (16 * p + v).toNat ((lsf (n_st ν))))) (s_setbg (s_setfr (n_st ν) (16 * p + v).toNat ((lsf (n_st ν)))) (4 * p + (Int.tdiv v 4)).toNat (0)))) 1)) (s_addfa (n_st (n_setst (n_setst (n_setst (ν) (s_setfr (n_st ν) (16 * p + v).toNat ((lsf (n_st ν))))) (s_setbg (s_setfr (n_st ν) (16 * p + v).toNat ((lsf (n_st ν)))) (4 * p + (Int.tdiv v 4)).toNat (0))) (s_addte (n_st (n_setst (n_setst (ν) (s_setfr (n_st ν) (16 * p + v).toNat ((lsf (n_st ν))))) (s_setbg (s_setfr (n_st ν) (16 * p + v).toNat ((lsf (n_st ν)))) (4 * p + (Int.tdiv v 4)).toNat (0)))) 1))) 0))) from rfl)) ?_
        refine g_iload (pc := 104) dX4_written_104 rfl ?_
        refine g_iconst (pc := 106) dX4_written_106 ?_
        refine g_c_lt (tgt := 114) (pc := 107) dX4_written_107 (by omega) (by decide) (fun c107 => absurd c107 (by omega)) (fun c107 => ?_)
        refine g_iconst (pc := 110) dX4_written_110 ?_
        refine g_goto (tgt := 115) (pc := 111) dX4_written_111 (by decide) ?_
        refine g_iadd (pc := 115) dX4_written_115 ?_
        refine g_iast (pc := 116) dX4_written_116 c_80 (by decide) ?_
        refine G.eqw w4_co ?_
        have hi : Inv (n_st (n_setst (n_setst (n_setst (n_setst (n_setst (ν) (s_setfr (n_st ν) (16 * p + v).toNat ((lsf (n_st ν))))) (s_setbg (s_setfr (n_st ν) (16 * p + v).toNat ((lsf (n_st ν)))) (4 * p + (Int.tdiv v 4)).toNat (0))) (s_addte (n_st (n_setst (n_setst (ν) (s_setfr (n_st ν) (16 * p + v).toNat ((lsf (n_st ν))))) (s_setbg (s_setfr (n_st ν) (16 * p + v).toNat ((lsf (n_st ν)))) (4 * p + (Int.tdiv v 4)).toNat (0)))) 1)) (s_addfa (n_st (n_setst (n_setst (n_setst (ν) (s_setfr (n_st ν) (16 * p + v).toNat ((lsf (n_st ν))))) (s_setbg (s_setfr (n_st ν) (16 * p + v).toNat ((lsf (n_st ν)))) (4 * p + (Int.tdiv v 4)).toNat (0))) (s_addte (n_st (n_setst (n_setst (ν) (s_setfr (n_st ν) (16 * p + v).toNat ((lsf (n_st ν))))) (s_setbg (s_setfr (n_st ν) (16 * p + v).toNat ((lsf (n_st ν)))) (4 * p + (Int.tdiv v 4)).toNat (0)))) 1))) 0)) (s_addco (n_st (n_setst (n_setst (n_setst (n_setst (ν) (s_setfr (n_st ν) (16 * p + v).toNat ((lsf (n_st ν))))) (s_setbg (s_setfr (n_st ν) (16 * p + v).toNat ((lsf (n_st ν)))) (4 * p + (Int.tdiv v 4)).toNat (0))) (s_addte (n_st (n_setst (n_setst (ν) (s_setfr (n_st ν) (16 * p + v).toNat ((lsf (n_st ν))))) (s_setbg (s_setfr (n_st ν) (16 * p + v).toNat ((lsf (n_st ν)))) (4 * p + (Int.tdiv v 4)).toNat (0)))) 1)) (s_addfa (n_st (n_setst (n_setst (n_setst (ν) (s_setfr (n_st ν) (16 * p + v).toNat ((lsf (n_st ν))))) (s_setbg (s_setfr (n_st ν) (16 * p + v).toNat ((lsf (n_st ν)))) (4 * p + (Int.tdiv v 4)).toNat (0))) (s_addte (n_st (n_setst (n_setst (ν) (s_setfr (n_st ν) (16 * p + v).toNat ((lsf (n_st ν))))) (s_setbg (s_setfr (n_st ν) (16 * p + v).toNat ((lsf (n_st ν)))) (4 * p + (Int.tdiv v 4)).toNat (0)))) 1))) 0))) 1))) := hi
        refine g_aload_n (i := 0) (pc := 117) dX4_written_117 rfl rfl ?_
        refine g_getf (pc := 118) f_X4_7 dX4_written_118 (c_79) rfl ?_
        refine g_bipush (pc := 121) dX4_written_121 (by decide) ?_
        refine g_aload_n (i := 0) (pc := 123) dX4_written_123 rfl rfl ?_
        refine g_iload_n (i := 1) (pc := 124) dX4_written_124 rfl rfl ?_
        refine g_iload_n (i := 2) (pc := 125) dX4_written_125 rfl rfl ?_
        refine g_v2 (pc := 126) okV_X4_frameOf rfl l_X4_53 dX4_written_126 (c_79) hc_4 (by decide) (by decide) (Nat.le_of_ble_eq_true rfl) (t_X4_frameOf hi (by omega) (by omega)) rfl ?_
        simp only [Option.toList, List.cons_append, List.nil_append]
        refine G.eqS (v' := vI (fo (s_addco (n_st (n_setst (n_setst (n_setst (n_setst (ν) (s_setfr (n_st ν) (16 * p + v).toNat ((lsf (n_st ν))))) (s_setbg (s_setfr (n_st ν) (16 * p + v).toNat ((lsf (n_st ν)))) (4 * p + (Int.tdiv v 4)).toNat (0))) (s_addte (n_st (n_setst (n_setst (ν) (s_setfr (n_st ν) (16 * p + v).toNat ((lsf (n_st ν))))) (s_setbg (s_setfr (n_st ν) (16 * p + v).toNat ((lsf (n_st ν)))) (4 * p + (Int.tdiv v 4)).toNat (0)))) 1)) (s_addfa (n_st (n_setst (n_setst (n_setst (ν) (s_setfr (n_st ν) (16 * p + v).toNat ((lsf (n_st ν))))) (s_setbg (s_setfr (n_st ν) (16 * p + v).toNat ((lsf (n_st ν)))) (4 * p + (Int.tdiv v 4)).toNat (0))) (s_addte (n_st (n_setst (n_setst (ν) (s_setfr (n_st ν) (16 * p + v).toNat ((lsf (n_st ν))))) (s_setbg (s_setfr (n_st ν) (16 * p + v).toNat ((lsf (n_st ν)))) (4 * p + (Int.tdiv v 4)).toNat (0)))) 1))) 0))) 1) (p) (v))) rfl ?_
        have bb := fo_rng (σ := (s_addco (n_st (n_setst (n_setst (n_setst (n_setst (ν) (s_setfr (n_st ν) (16 * p + v).toNat ((lsf (n_st ν))))) (s_setbg (s_setfr (n_st ν) (16 * p + v).toNat ((lsf (n_st ν)))) (4 * p + (Int.tdiv v 4)).toNat (0))) (s_addte (n_st (n_setst (n_setst (ν) (s_setfr (n_st ν) (16 * p + v).toNat ((lsf (n_st ν))))) (s_setbg (s_setfr (n_st ν) (16 * p + v).toNat ((lsf (n_st ν)))) (4 * p + (Int.tdiv v 4)).toNat (0)))) 1)) (s_addfa (n_st (n_setst (n_setst (n_setst (ν) (s_setfr (n_st ν) (16 * p + v).toNat ((lsf (n_st ν))))) (s_setbg (s_setfr (n_st ν) (16 * p + v).toNat ((lsf (n_st ν)))) (4 * p + (Int.tdiv v 4)).toNat (0))) (s_addte (n_st (n_setst (n_setst (ν) (s_setfr (n_st ν) (16 * p + v).toNat ((lsf (n_st ν))))) (s_setbg (s_setfr (n_st ν) (16 * p + v).toNat ((lsf (n_st ν)))) (4 * p + (Int.tdiv v 4)).toNat (0)))) 1))) 0))) 1)) hi (p) (v)
        have hf9 : fo (s_addco (n_st (n_setst (n_setst (n_setst (n_setst (ν) (s_setfr (n_st ν) (16 * p + v).toNat ((lsf (n_st ν))))) (s_setbg (s_setfr (n_st ν) (16 * p + v).toNat ((lsf (n_st ν)))) (4 * p + (Int.tdiv v 4)).toNat (0))) (s_addte (n_st (n_setst (n_setst (ν) (s_setfr (n_st ν) (16 * p + v).toNat ((lsf (n_st ν))))) (s_setbg (s_setfr (n_st ν) (16 * p + v).toNat ((lsf (n_st ν)))) (4 * p + (Int.tdiv v 4)).toNat (0)))) 1)) (s_addfa (n_st (n_setst (n_setst (n_setst (ν) (s_setfr (n_st ν) (16 * p + v).toNat ((lsf (n_st ν))))) (s_setbg (s_setfr (n_st ν) (16 * p + v).toNat ((lsf (n_st ν)))) (4 * p + (Int.tdiv v 4)).toNat (0))) (s_addte (n_st (n_setst (n_setst (ν) (s_setfr (n_st ν) (16 * p + v).toNat ((lsf (n_st ν))))) (s_setbg (s_setfr (n_st ν) (16 * p + v).toNat ((lsf (n_st ν)))) (4 * p + (Int.tdiv v 4)).toNat (0)))) 1))) 0))) 1) p v ≠ -1 := by
          first
          | exact oc_0 (show oc (n_st ν) p v = 0 by omega)
          | (rw [show fo (s_addco (n_st (n_setst (n_setst (n_setst (n_setst (ν) (s_setfr (n_st ν) (16 * p + v).toNat ((lsf (n_st ν))))) (s_setbg (s_setfr (n_st ν) (16 * p + v).toNat ((lsf (n_st ν)))) (4 * p + (Int.tdiv v 4)).toNat (0))) (s_addte (n_st (n_setst (n_setst (ν) (s_setfr (n_st ν) (16 * p + v).toNat ((lsf (n_st ν))))) (s_setbg (s_setfr (n_st ν) (16 * p + v).toNat ((lsf (n_st ν)))) (4 * p + (Int.tdiv v 4)).toNat (0)))) 1)) (s_addfa (n_st (n_setst (n_setst (n_setst (ν) (s_setfr (n_st ν) (16 * p + v).toNat ((lsf (n_st ν))))) (s_setbg (s_setfr (n_st ν) (16 * p + v).toNat ((lsf (n_st ν)))) (4 * p + (Int.tdiv v 4)).toNat (0))) (s_addte (n_st (n_setst (n_setst (ν) (s_setfr (n_st ν) (16 * p + v).toNat ((lsf (n_st ν))))) (s_setbg (s_setfr (n_st ν) (16 * p + v).toNat ((lsf (n_st ν)))) (4 * p + (Int.tdiv v 4)).toNat (0)))) 1))) 0))) 1) p v = lsf (n_st ν) from fo_setfr (σ := n_st ν) (x := lsf (n_st ν)) ⟨h_p1, h_p2⟩ ⟨h_v1, h_v2⟩]; exact h_n)
          | (have q1 := wh_in (n_st ν) (p := p) (g := Int.tdiv v 4) (lfr (n_st ν)) ⟨h_p1, h_p2⟩ (by omega) (j := 4) (i := (v % 4).toNat) (by omega) (by omega)
             rw [show (16 * p + (4 * (Int.tdiv v 4) + ((v % 4).toNat : Int))).toNat = (16 * p + v).toNat by omega] at q1
             rw [show fo (s_addco (n_st (n_setst (n_setst (n_setst (n_setst (ν) (s_setfr (n_st ν) (16 * p + v).toNat ((lsf (n_st ν))))) (s_setbg (s_setfr (n_st ν) (16 * p + v).toNat ((lsf (n_st ν)))) (4 * p + (Int.tdiv v 4)).toNat (0))) (s_addte (n_st (n_setst (n_setst (ν) (s_setfr (n_st ν) (16 * p + v).toNat ((lsf (n_st ν))))) (s_setbg (s_setfr (n_st ν) (16 * p + v).toNat ((lsf (n_st ν)))) (4 * p + (Int.tdiv v 4)).toNat (0)))) 1)) (s_addfa (n_st (n_setst (n_setst (n_setst (ν) (s_setfr (n_st ν) (16 * p + v).toNat ((lsf (n_st ν))))) (s_setbg (s_setfr (n_st ν) (16 * p + v).toNat ((lsf (n_st ν)))) (4 * p + (Int.tdiv v 4)).toNat (0))) (s_addte (n_st (n_setst (n_setst (ν) (s_setfr (n_st ν) (16 * p + v).toNat ((lsf (n_st ν))))) (s_setbg (s_setfr (n_st ν) (16 * p + v).toNat ((lsf (n_st ν)))) (4 * p + (Int.tdiv v 4)).toNat (0)))) 1))) 0))) 1) p v = s_fr (s_wh (n_st ν) p (Int.tdiv v 4) (lfr (n_st ν)) 4) (16 * p + v).toNat from fo_in (σ := s_who (n_st ν) p (Int.tdiv v 4) (lfr (n_st ν))) ⟨h_p1, h_p2⟩ ⟨h_v1, h_v2⟩, q1]
             omega)
        refine g_iadd (pc := 129) dX4_written_129 ?_
        refine g_iload_n (i := 3) (pc := 130) dX4_written_130 rfl rfl ?_
        refine g_iast (pc := 131) dX4_written_131 c_80 (by omega) ?_
        refine G.eqw (w4_va (k := (fo (s_addco (n_st (n_setst (n_setst (n_setst (n_setst (ν) (s_setfr (n_st ν) (16 * p + v).toNat ((lsf (n_st ν))))) (s_setbg (s_setfr (n_st ν) (16 * p + v).toNat ((lsf (n_st ν)))) (4 * p + (Int.tdiv v 4)).toNat (0))) (s_addte (n_st (n_setst (n_setst (ν) (s_setfr (n_st ν) (16 * p + v).toNat ((lsf (n_st ν))))) (s_setbg (s_setfr (n_st ν) (16 * p + v).toNat ((lsf (n_st ν)))) (4 * p + (Int.tdiv v 4)).toNat (0)))) 1)) (s_addfa (n_st (n_setst (n_setst (n_setst (ν) (s_setfr (n_st ν) (16 * p + v).toNat ((lsf (n_st ν))))) (s_setbg (s_setfr (n_st ν) (16 * p + v).toNat ((lsf (n_st ν)))) (4 * p + (Int.tdiv v 4)).toNat (0))) (s_addte (n_st (n_setst (n_setst (ν) (s_setfr (n_st ν) (16 * p + v).toNat ((lsf (n_st ν))))) (s_setbg (s_setfr (n_st ν) (16 * p + v).toNat ((lsf (n_st ν)))) (4 * p + (Int.tdiv v 4)).toNat (0)))) 1))) 0))) 1) p v).toNat) (by omega) (by omega)) ?_
        refine g_iload (pc := 132) dX4_written_132 rfl ?_
        refine g_iret (pc := 134) rfl dX4_written_134 (fun h => h) ?_
        have e9 : s_wri1 (n_st ν) p v = (s_addco (s_setfr (s_torn (n_st ν) p (Int.tdiv v 4)) (16 * p + v).toNat (lsf (n_st ν))) 1) := by
          unfold s_wri1
          have hb9 := oc_b (σ := n_st ν) (p := p) (v := v) (by omega)
          rw [if_neg (by omega), if_neg (by omega)]
          unfold s_cop s_tsf
          rw [if_pos (hb9.mp (by omega)), if_neg (show ¬ lsf (s_torn (n_st ν) p (Int.tdiv v 4)) = -1 from h_n)]
          rfl
        refine dt_i rfl (Eq.trans (b := cW κ (dE (n_setst ν (s_setva (s_addco (s_addfa (s_addte (s_setbg (s_setfr (n_st ν) (16 * p + v).toNat (lsf (n_st ν))) (4 * p + Int.tdiv v 4).toNat 0) 1) 0) 1) (fo (s_setfr (n_st ν) (16 * p + v).toNat (lsf (n_st ν))) p v).toNat x))) o) rfl (congrArg (fun z => cW κ (dE (n_setst ν z)) o) ?_))
        unfold s_wri
        rw [e9, if_neg (show ¬ fo (s_addco (s_setfr (s_torn (n_st ν) p (Int.tdiv v 4)) (16 * p + v).toNat (lsf (n_st ν))) 1) p v = -1 from hf9), addfa_0]
        rfl
  · skip
    refine g_aload_n (i := 0) (pc := 14) dX4_written_14 rfl rfl ?_
    refine g_iload_n (i := 1) (pc := 15) dX4_written_15 rfl rfl ?_
    refine g_iload_n (i := 2) (pc := 16) dX4_written_16 rfl rfl ?_
    refine g_v2 (pc := 17) okV_X4_isEagerFault rfl l_X4_77 dX4_written_17 (c_79) hc_4 (by decide) (by decide) (Nat.le_of_ble_eq_true rfl) (t_X4_isEagerFault hi (by omega) (by omega)) rfl ?_
    simp only [Option.toList, List.cons_append, List.nil_append]
    have bb := b2_rng (eaf (n_st ν) (p) (v))
    refine g_z_eq (tgt := 34) (pc := 20) dX4_written_20 (by omega) (by decide) (fun c20 => ?_) (fun c20 => ?_)
    · skip
      refine g_iload (pc := 34) dX4_written_34 rfl ?_
      refine g_z_eq (tgt := 49) (pc := 36) dX4_written_36 (by omega) (by decide) (fun c36 => absurd c36 (by omega)) (fun c36 => ?_)
      have h_n := oc_n h_o (by omega)
      refine g_aload_n (i := 0) (pc := 39) dX4_written_39 rfl rfl ?_
      refine g_iload_n (i := 1) (pc := 40) dX4_written_40 rfl rfl ?_
      refine g_iload_n (i := 2) (pc := 41) dX4_written_41 rfl rfl ?_
      refine g_aload_n (i := 0) (pc := 42) dX4_written_42 rfl rfl ?_
      refine g_v0 (pc := 43) okV_X4_singleFrame rfl l_X4_80 dX4_written_43 (c_79) hc_4 (by decide) (by decide) (Nat.le_of_ble_eq_true rfl) (t_X4_singleFrame hi) rfl ?_
      simp only [Option.toList, List.cons_append, List.nil_append]
      have bb := lsf_rng (n_st ν)
      refine g_v3 (pc := 46) okV_X4_setFrame rfl l_X4_83 dX4_written_46 (c_79) hc_4 (by decide) (by decide) (Nat.le_of_ble_eq_true rfl) (t_X4_setFrame hi (by omega) (by omega) (by omega)) (by rw [c_len, c_len]) ?_
      simp only [Option.toList, List.cons_append, List.nil_append]
      have hi0 := hi
      have hi := inv_fr (k := (16 * p + v).toNat) (x := lsf (n_st ν)) hi (by omega) (by omega) (Or.inr (by rw [show (16 * p + v).toNat / 16 = p.toNat by omega]; exact h_e))
      refine g_iload (pc := 49) dX4_written_49 rfl ?_
      refine g_iconst (pc := 51) dX4_written_51 ?_
      refine g_c_ne (tgt := 75) (pc := 52) dX4_written_52 (by omega) (by decide) (fun c52 => ?_) (fun c52 => absurd c52 (by omega))
      refine g_aload_n (i := 0) (pc := 75) dX4_written_75 rfl rfl ?_
      refine g_getf (pc := 76) f_X4_7 dX4_written_76 (c_79) rfl ?_
      refine g_bipush (pc := 79) dX4_written_79 (by decide) ?_
      refine g_dup2 (pc := 81) dX4_written_81 (fun z h => nomatch h) (fun z h => nomatch h) ?_
      refine g_iald (pc := 82) dX4_written_82 (c_80) (by omega) ?_
      refine G.eqS (congrArg (fun z => vI z) (show _ = s_fa (n_st (n_setst (ν) (s_setfr (n_st ν) (16 * p + v).toNat ((lsf (n_st ν)))))) from rfl)) ?_
      refine g_iload (pc := 83) dX4_written_83 rfl ?_
      refine g_iconst (pc := 85) dX4_written_85 ?_
      refine g_c_ne (tgt := 93) (pc := 86) dX4_written_86 (by omega) (by decide) (fun c86 => absurd c86 (by omega)) (fun c86 => ?_)
      refine g_iconst (pc := 89) dX4_written_89 ?_
      refine g_goto (tgt := 94) (pc := 90) dX4_written_90 (by decide) ?_
      refine g_iadd (pc := 94) dX4_written_94 ?_
      refine g_iast (pc := 95) dX4_written_95 c_80 (by decide) ?_
      refine G.eqw w4_fa ?_
      refine g_aload_n (i := 0) (pc := 96) dX4_written_96 rfl rfl ?_
      refine g_getf (pc := 97) f_X4_7 dX4_written_97 (c_79) rfl ?_
      refine g_bipush (pc := 100) dX4_written_100 (by decide) ?_
      refine g_dup2 (pc := 102) dX4_written_102 (fun z h => nomatch h) (fun z h => nomatch h) ?_
      refine g_iald (pc := 103) dX4_written_103 (c_80) (by omega) ?_
      refine G.eqS (congrArg (fun z => vI z) (show _ = s_co (n_st (n_setst (n_setst (ν) (s_setfr (n_st ν) (16 * p + v).toNat ((lsf (n_st ν))))) (s_addfa (n_st (n_setst (ν) (s_setfr (n_st ν) (16 * p + v).toNat ((lsf (n_st ν)))))) 1))) from rfl)) ?_
      refine g_iload (pc := 104) dX4_written_104 rfl ?_
      refine g_iconst (pc := 106) dX4_written_106 ?_
      refine g_c_lt (tgt := 114) (pc := 107) dX4_written_107 (by omega) (by decide) (fun c107 => ?_) (fun c107 => absurd c107 (by omega))
      refine g_iconst (pc := 114) dX4_written_114 ?_
      refine g_iadd (pc := 115) dX4_written_115 ?_
      refine g_iast (pc := 116) dX4_written_116 c_80 (by decide) ?_
      refine G.eqw w4_co ?_
      have hi : Inv (n_st (n_setst (n_setst (n_setst (ν) (s_setfr (n_st ν) (16 * p + v).toNat ((lsf (n_st ν))))) (s_addfa (n_st (n_setst (ν) (s_setfr (n_st ν) (16 * p + v).toNat ((lsf (n_st ν)))))) 1)) (s_addco (n_st (n_setst (n_setst (ν) (s_setfr (n_st ν) (16 * p + v).toNat ((lsf (n_st ν))))) (s_addfa (n_st (n_setst (ν) (s_setfr (n_st ν) (16 * p + v).toNat ((lsf (n_st ν)))))) 1))) 0))) := hi
      refine g_aload_n (i := 0) (pc := 117) dX4_written_117 rfl rfl ?_
      refine g_getf (pc := 118) f_X4_7 dX4_written_118 (c_79) rfl ?_
      refine g_bipush (pc := 121) dX4_written_121 (by decide) ?_
      refine g_aload_n (i := 0) (pc := 123) dX4_written_123 rfl rfl ?_
      refine g_iload_n (i := 1) (pc := 124) dX4_written_124 rfl rfl ?_
      refine g_iload_n (i := 2) (pc := 125) dX4_written_125 rfl rfl ?_
      refine g_v2 (pc := 126) okV_X4_frameOf rfl l_X4_53 dX4_written_126 (c_79) hc_4 (by decide) (by decide) (Nat.le_of_ble_eq_true rfl) (t_X4_frameOf hi (by omega) (by omega)) rfl ?_
      simp only [Option.toList, List.cons_append, List.nil_append]
      refine G.eqS (v' := vI (fo (s_addco (n_st (n_setst (n_setst (ν) (s_setfr (n_st ν) (16 * p + v).toNat ((lsf (n_st ν))))) (s_addfa (n_st (n_setst (ν) (s_setfr (n_st ν) (16 * p + v).toNat ((lsf (n_st ν)))))) 1))) 0) (p) (v))) rfl ?_
      have bb := fo_rng (σ := (s_addco (n_st (n_setst (n_setst (ν) (s_setfr (n_st ν) (16 * p + v).toNat ((lsf (n_st ν))))) (s_addfa (n_st (n_setst (ν) (s_setfr (n_st ν) (16 * p + v).toNat ((lsf (n_st ν)))))) 1))) 0)) hi (p) (v)
      have hf9 : fo (s_addco (n_st (n_setst (n_setst (ν) (s_setfr (n_st ν) (16 * p + v).toNat ((lsf (n_st ν))))) (s_addfa (n_st (n_setst (ν) (s_setfr (n_st ν) (16 * p + v).toNat ((lsf (n_st ν)))))) 1))) 0) p v ≠ -1 := by
        first
        | exact oc_0 (show oc (n_st ν) p v = 0 by omega)
        | (rw [show fo (s_addco (n_st (n_setst (n_setst (ν) (s_setfr (n_st ν) (16 * p + v).toNat ((lsf (n_st ν))))) (s_addfa (n_st (n_setst (ν) (s_setfr (n_st ν) (16 * p + v).toNat ((lsf (n_st ν)))))) 1))) 0) p v = lsf (n_st ν) from fo_setfr (σ := n_st ν) (x := lsf (n_st ν)) ⟨h_p1, h_p2⟩ ⟨h_v1, h_v2⟩]; exact h_n)
        | (have q1 := wh_in (n_st ν) (p := p) (g := Int.tdiv v 4) (lfr (n_st ν)) ⟨h_p1, h_p2⟩ (by omega) (j := 4) (i := (v % 4).toNat) (by omega) (by omega)
           rw [show (16 * p + (4 * (Int.tdiv v 4) + ((v % 4).toNat : Int))).toNat = (16 * p + v).toNat by omega] at q1
           rw [show fo (s_addco (n_st (n_setst (n_setst (ν) (s_setfr (n_st ν) (16 * p + v).toNat ((lsf (n_st ν))))) (s_addfa (n_st (n_setst (ν) (s_setfr (n_st ν) (16 * p + v).toNat ((lsf (n_st ν)))))) 1))) 0) p v = s_fr (s_wh (n_st ν) p (Int.tdiv v 4) (lfr (n_st ν)) 4) (16 * p + v).toNat from fo_in (σ := s_who (n_st ν) p (Int.tdiv v 4) (lfr (n_st ν))) ⟨h_p1, h_p2⟩ ⟨h_v1, h_v2⟩, q1]
           omega)
      refine g_iadd (pc := 129) dX4_written_129 ?_
      refine g_iload_n (i := 3) (pc := 130) dX4_written_130 rfl rfl ?_
      refine g_iast (pc := 131) dX4_written_131 c_80 (by omega) ?_
      refine G.eqw (w4_va (k := (fo (s_addco (n_st (n_setst (n_setst (ν) (s_setfr (n_st ν) (16 * p + v).toNat ((lsf (n_st ν))))) (s_addfa (n_st (n_setst (ν) (s_setfr (n_st ν) (16 * p + v).toNat ((lsf (n_st ν)))))) 1))) 0) p v).toNat) (by omega) (by omega)) ?_
      refine g_iload (pc := 132) dX4_written_132 rfl ?_
      refine g_iret (pc := 134) rfl dX4_written_134 (fun h => h) ?_
      have e9 : s_wri1 (n_st ν) p v = (s_addfa (s_setfr (n_st ν) (16 * p + v).toNat (lsf (n_st ν))) 1) := by
        unfold s_wri1
        rw [if_pos (by omega)]
        unfold s_bri s_tsf
        rw [if_neg (fun q => absurd (b2_t (b := eaf (n_st ν) p v) (decide_eq_true ⟨q.1, q.2.2, q.2.1⟩)) (by omega)), if_neg h_n]
      refine dt_i rfl (Eq.trans (b := cW κ (dE (n_setst ν (s_setva (s_addco (s_addfa (s_setfr (n_st ν) (16 * p + v).toNat (lsf (n_st ν))) 1) 0) (fo (s_setfr (n_st ν) (16 * p + v).toNat (lsf (n_st ν))) p v).toNat x))) o) rfl (congrArg (fun z => cW κ (dE (n_setst ν z)) o) ?_))
      unfold s_wri
      rw [e9, if_neg (show ¬ fo (s_addfa (s_setfr (n_st ν) (16 * p + v).toNat (lsf (n_st ν))) 1) p v = -1 from hf9), addco_0]
      rfl
    · skip
      have h_q := of_decide_eq_true (show eaf (n_st ν) p v = true from b2_1.mp (by omega))
      have h_l := h_q.2.2
      refine g_aload_n (i := 0) (pc := 23) dX4_written_23 rfl rfl ?_
      refine g_iload_n (i := 1) (pc := 24) dX4_written_24 rfl rfl ?_
      refine g_iload_n (i := 2) (pc := 25) dX4_written_25 rfl rfl ?_
      refine g_iconst (pc := 26) dX4_written_26 ?_
      refine g_idiv (pc := 27) dX4_written_27 (by omega) (by omega) ?_
      refine g_v2 (pc := 28) okV_X4_makeBig rfl l_X4_93 dX4_written_28 (c_79) hc_4 (by decide) (by decide) (Nat.le_of_ble_eq_true rfl) (t_X4_makeBig hi (by omega) (by omega) h_e h_l) (by rw [c_len, c_len]) ?_
      simp only [Option.toList, List.cons_append, List.nil_append]
      have hi0 := hi
      have hi := inv_who (p := p) (g := Int.tdiv v 4) (r := lfr (n_st ν)) hi ⟨h_p1, h_p2, h_e⟩ (by omega) (by omega)
      refine g_goto (tgt := 49) (pc := 31) dX4_written_31 (by decide) ?_
      refine g_iload (pc := 49) dX4_written_49 rfl ?_
      refine g_iconst (pc := 51) dX4_written_51 ?_
      refine g_c_ne (tgt := 75) (pc := 52) dX4_written_52 (by omega) (by decide) (fun c52 => ?_) (fun c52 => absurd c52 (by omega))
      refine g_aload_n (i := 0) (pc := 75) dX4_written_75 rfl rfl ?_
      refine g_getf (pc := 76) f_X4_7 dX4_written_76 (c_79) rfl ?_
      refine g_bipush (pc := 79) dX4_written_79 (by decide) ?_
      refine g_dup2 (pc := 81) dX4_written_81 (fun z h => nomatch h) (fun z h => nomatch h) ?_
      refine g_iald (pc := 82) dX4_written_82 (c_80) (by omega) ?_
      refine G.eqS (congrArg (fun z => vI z) (show _ = s_fa (n_st (n_setst (ν) (s_who (n_st ν) (p) ((Int.tdiv v 4)) (lfr (n_st ν))))) from rfl)) ?_
      refine g_iload (pc := 83) dX4_written_83 rfl ?_
      refine g_iconst (pc := 85) dX4_written_85 ?_
      refine g_c_ne (tgt := 93) (pc := 86) dX4_written_86 (by omega) (by decide) (fun c86 => absurd c86 (by omega)) (fun c86 => ?_)
      refine g_iconst (pc := 89) dX4_written_89 ?_
      refine g_goto (tgt := 94) (pc := 90) dX4_written_90 (by decide) ?_
      refine g_iadd (pc := 94) dX4_written_94 ?_
      refine g_iast (pc := 95) dX4_written_95 c_80 (by decide) ?_
      refine G.eqw w4_fa ?_
      refine g_aload_n (i := 0) (pc := 96) dX4_written_96 rfl rfl ?_
      refine g_getf (pc := 97) f_X4_7 dX4_written_97 (c_79) rfl ?_
      refine g_bipush (pc := 100) dX4_written_100 (by decide) ?_
      refine g_dup2 (pc := 102) dX4_written_102 (fun z h => nomatch h) (fun z h => nomatch h) ?_
      refine g_iald (pc := 103) dX4_written_103 (c_80) (by omega) ?_
      refine G.eqS (congrArg (fun z => vI z) (show _ = s_co (n_st (n_setst (n_setst (ν) (s_who (n_st ν) (p) ((Int.tdiv v 4)) (lfr (n_st ν)))) (s_addfa (n_st (n_setst (ν) (s_who (n_st ν) (p) ((Int.tdiv v 4)) (lfr (n_st ν))))) 1))) from rfl)) ?_
      refine g_iload (pc := 104) dX4_written_104 rfl ?_
      refine g_iconst (pc := 106) dX4_written_106 ?_
      refine g_c_lt (tgt := 114) (pc := 107) dX4_written_107 (by omega) (by decide) (fun c107 => ?_) (fun c107 => absurd c107 (by omega))
      refine g_iconst (pc := 114) dX4_written_114 ?_
      refine g_iadd (pc := 115) dX4_written_115 ?_
      refine g_iast (pc := 116) dX4_written_116 c_80 (by decide) ?_
      refine G.eqw w4_co ?_
      have hi : Inv (n_st (n_setst (n_setst (n_setst (ν) (s_who (n_st ν) (p) ((Int.tdiv v 4)) (lfr (n_st ν)))) (s_addfa (n_st (n_setst (ν) (s_who (n_st ν) (p) ((Int.tdiv v 4)) (lfr (n_st ν))))) 1)) (s_addco (n_st (n_setst (n_setst (ν) (s_who (n_st ν) (p) ((Int.tdiv v 4)) (lfr (n_st ν)))) (s_addfa (n_st (n_setst (ν) (s_who (n_st ν) (p) ((Int.tdiv v 4)) (lfr (n_st ν))))) 1))) 0))) := hi
      refine g_aload_n (i := 0) (pc := 117) dX4_written_117 rfl rfl ?_
      refine g_getf (pc := 118) f_X4_7 dX4_written_118 (c_79) rfl ?_
      refine g_bipush (pc := 121) dX4_written_121 (by decide) ?_
      refine g_aload_n (i := 0) (pc := 123) dX4_written_123 rfl rfl ?_
      refine g_iload_n (i := 1) (pc := 124) dX4_written_124 rfl rfl ?_
      refine g_iload_n (i := 2) (pc := 125) dX4_written_125 rfl rfl ?_
      refine g_v2 (pc := 126) okV_X4_frameOf rfl l_X4_53 dX4_written_126 (c_79) hc_4 (by decide) (by decide) (Nat.le_of_ble_eq_true rfl) (t_X4_frameOf hi (by omega) (by omega)) rfl ?_
      simp only [Option.toList, List.cons_append, List.nil_append]
      refine G.eqS (v' := vI (fo (s_addco (n_st (n_setst (n_setst (ν) (s_who (n_st ν) (p) ((Int.tdiv v 4)) (lfr (n_st ν)))) (s_addfa (n_st (n_setst (ν) (s_who (n_st ν) (p) ((Int.tdiv v 4)) (lfr (n_st ν))))) 1))) 0) (p) (v))) rfl ?_
      have bb := fo_rng (σ := (s_addco (n_st (n_setst (n_setst (ν) (s_who (n_st ν) (p) ((Int.tdiv v 4)) (lfr (n_st ν)))) (s_addfa (n_st (n_setst (ν) (s_who (n_st ν) (p) ((Int.tdiv v 4)) (lfr (n_st ν))))) 1))) 0)) hi (p) (v)
      have hf9 : fo (s_addco (n_st (n_setst (n_setst (ν) (s_who (n_st ν) (p) ((Int.tdiv v 4)) (lfr (n_st ν)))) (s_addfa (n_st (n_setst (ν) (s_who (n_st ν) (p) ((Int.tdiv v 4)) (lfr (n_st ν))))) 1))) 0) p v ≠ -1 := by
        first
        | exact oc_0 (show oc (n_st ν) p v = 0 by omega)
        | (rw [show fo (s_addco (n_st (n_setst (n_setst (ν) (s_who (n_st ν) (p) ((Int.tdiv v 4)) (lfr (n_st ν)))) (s_addfa (n_st (n_setst (ν) (s_who (n_st ν) (p) ((Int.tdiv v 4)) (lfr (n_st ν))))) 1))) 0) p v = lsf (n_st ν) from fo_setfr (σ := n_st ν) (x := lsf (n_st ν)) ⟨h_p1, h_p2⟩ ⟨h_v1, h_v2⟩]; exact h_n)
        | (have q1 := wh_in (n_st ν) (p := p) (g := Int.tdiv v 4) (lfr (n_st ν)) ⟨h_p1, h_p2⟩ (by omega) (j := 4) (i := (v % 4).toNat) (by omega) (by omega)
           rw [show (16 * p + (4 * (Int.tdiv v 4) + ((v % 4).toNat : Int))).toNat = (16 * p + v).toNat by omega] at q1
           rw [show fo (s_addco (n_st (n_setst (n_setst (ν) (s_who (n_st ν) (p) ((Int.tdiv v 4)) (lfr (n_st ν)))) (s_addfa (n_st (n_setst (ν) (s_who (n_st ν) (p) ((Int.tdiv v 4)) (lfr (n_st ν))))) 1))) 0) p v = s_fr (s_wh (n_st ν) p (Int.tdiv v 4) (lfr (n_st ν)) 4) (16 * p + v).toNat from fo_in (σ := s_who (n_st ν) p (Int.tdiv v 4) (lfr (n_st ν))) ⟨h_p1, h_p2⟩ ⟨h_v1, h_v2⟩, q1]
           omega)
      refine g_iadd (pc := 129) dX4_written_129 ?_
      refine g_iload_n (i := 3) (pc := 130) dX4_written_130 rfl rfl ?_
      refine g_iast (pc := 131) dX4_written_131 c_80 (by omega) ?_
      refine G.eqw (w4_va (k := (fo (s_addco (n_st (n_setst (n_setst (ν) (s_who (n_st ν) (p) ((Int.tdiv v 4)) (lfr (n_st ν)))) (s_addfa (n_st (n_setst (ν) (s_who (n_st ν) (p) ((Int.tdiv v 4)) (lfr (n_st ν))))) 1))) 0) p v).toNat) (by omega) (by omega)) ?_
      refine g_iload (pc := 132) dX4_written_132 rfl ?_
      refine g_iret (pc := 134) rfl dX4_written_134 (fun h => h) ?_
      have e9 : s_wri1 (n_st ν) p v = (s_addfa (s_who (n_st ν) p (Int.tdiv v 4) (lfr (n_st ν))) 1) := by
        unfold s_wri1
        rw [if_pos (by omega)]
        unfold s_bri
        rw [if_pos ⟨h_q.1, h_q.2.2, h_q.2.1⟩]
      refine dt_i rfl (Eq.trans (b := cW κ (dE (n_setst ν (s_setva (s_addco (s_addfa (s_who (n_st ν) p (Int.tdiv v 4) (lfr (n_st ν))) 1) 0) (fo (s_who (n_st ν) p (Int.tdiv v 4) (lfr (n_st ν))) p v).toNat x))) o) rfl (congrArg (fun z => cW κ (dE (n_setst ν z)) o) ?_))
      unfold s_wri
      rw [e9, if_neg (show ¬ fo (s_addfa (s_who (n_st ν) p (Int.tdiv v 4) (lfr (n_st ν))) 1) p v = -1 from hf9), addco_0]
      rfl
set_option maxRecDepth 20000 in
set_option maxHeartbeats 4000000 in
theorem t_X4_forked {κ : KT} {ν : NT} {o : Nat → Int} {al : Bool} (hi : Inv (n_st ν)) {p : Int} (h_c : canF (n_st ν) p = true) : GM M_X4_forked al [vR 79, vI p] (cW κ (dE ν) o) 0 0 (dt (some (vI (lup (n_st ν)))) (cW κ (dE (n_setst ν (s_for (n_st ν) p))) o)) := by
  show G _ none _ _ 0 [some (vR 79), some (vI p), none, none] [] _ _ _ _
  refine g_aload_n (i := 0) (pc := 0) dX4_forked_0 rfl rfl ?_
  refine g_v0 (pc := 1) okV_X4_freeProcess rfl l_X4_97 dX4_forked_1 (c_79) hc_4 (by decide) (by decide) (Nat.le_of_ble_eq_true rfl) (t_X4_freeProcess hi) rfl ?_
  simp only [Option.toList, List.cons_append, List.nil_append]
  have bb := lup_rng (n_st ν)
  rw [canF, Bool.and_eq_true, decide_eq_true_eq] at h_c
  obtain ⟨h_p1, h_p2, h_e⟩ := ex_of h_c.1
  have hl8 := h_c.2
  have hi9 := inv_ex1 hi (k := (lup (n_st ν)).toNat) (by omega)
  have hxe : s_ex (s_setex (n_st ν) (lup (n_st ν)).toNat 1) (lup (n_st ν)).toNat = 1 := up_s _ _ _
  refine g_istore_n (i := 2) (pc := 4) dX4_forked_4 rfl (by decide) rfl ?_
  simp only [List.set_cons_succ, List.set_cons_zero]
  refine g_aload_n (i := 0) (pc := 5) dX4_forked_5 rfl rfl ?_
  refine g_getf (pc := 6) f_X4_7 dX4_forked_6 (c_79) rfl ?_
  refine g_iconst (pc := 9) dX4_forked_9 ?_
  refine g_iload_n (i := 2) (pc := 10) dX4_forked_10 rfl rfl ?_
  refine g_iadd (pc := 11) dX4_forked_11 ?_
  refine g_iconst (pc := 12) dX4_forked_12 ?_
  refine g_iast (pc := 13) dX4_forked_13 c_80 (by omega) ?_
  refine G.eqw (w4_ex (k := (lup (n_st ν)).toNat) (by omega) (by omega)) ?_
  refine g_iconst (pc := 14) dX4_forked_14 ?_
  refine g_istore_n (i := 3) (pc := 15) dX4_forked_15 rfl (by decide) rfl ?_
  simp only [List.set_cons_succ, List.set_cons_zero]
  refine lp_up (P := fun k => G M_X4_forked none al al 16 [some (vR 79), some (vI p), some (vI (lup (n_st ν))), some (vI k)] [] (cW κ (dE (n_setst ν (s_fk (s_setex (n_st ν) (lup (n_st ν)).toNat 1) p (lup (n_st ν)) k))) o) 0 0 (dt (some (vI (lup (n_st ν)))) (cW κ (dE (n_setst ν (s_for (n_st ν) p))) o))) 16 ?_ ?_ 0 (Nat.zero_le _)
  · have hi := inv_fk hi9 (p := p) (c := lup (n_st ν)) ⟨by omega, by omega, hxe⟩ 16 (by omega)
    show G _ _ _ _ _ _ _ _ _ _ _
    refine g_iload_n (i := 3) (pc := 16) dX4_forked_16 rfl rfl ?_
    refine g_bipush (pc := 17) dX4_forked_17 (by decide) ?_
    refine g_c_ge (tgt := 40) (pc := 19) dX4_forked_19 (by omega) (by decide) (fun c19 => ?_) (fun c19 => absurd c19 (by omega))
    refine g_iconst (pc := 40) dX4_forked_40 ?_
    refine g_istore_n (i := 3) (pc := 41) dX4_forked_41 rfl (by decide) rfl ?_
    simp only [List.set_cons_succ, List.set_cons_zero]
    have hi8 := hi
    refine lp_up (P := fun k => G M_X4_forked none al al 42 [some (vR 79), some (vI p), some (vI (lup (n_st ν))), some (vI k)] [] (cW κ (dE (n_setst ν (s_fb (s_fk (s_setex (n_st ν) (lup (n_st ν)).toNat 1) p (lup (n_st ν)) 16) p (lup (n_st ν)) k))) o) 0 0 (dt (some (vI (lup (n_st ν)))) (cW κ (dE (n_setst ν (s_for (n_st ν) p))) o))) 4 ?_ ?_ 0 (Nat.zero_le _)
    · show G _ _ _ _ _ _ _ _ _ _ _
      refine g_iload_n (i := 3) (pc := 42) dX4_forked_42 rfl rfl ?_
      refine g_iconst (pc := 43) dX4_forked_43 ?_
      refine g_c_ge (tgt := 73) (pc := 44) dX4_forked_44 (by omega) (by decide) (fun c44 => ?_) (fun c44 => absurd c44 (by omega))
      refine g_iload_n (i := 2) (pc := 73) dX4_forked_73 rfl rfl ?_
      refine g_iret (pc := 74) rfl dX4_forked_74 (fun h => h) ?_
      exact dt_i rfl rfl
    · intro k hk ih
      have hi := inv_fb hi8 (p := p) (c := lup (n_st ν)) ⟨by omega, by omega, by show s_ex (s_fk (s_setex (n_st ν) (lup (n_st ν)).toNat 1) p (lup (n_st ν)) 16) _ = 1; rw [fk_ex]; exact hxe⟩ k (by omega)
      show G _ _ _ _ _ _ _ _ _ _ _
      refine g_iload_n (i := 3) (pc := 42) dX4_forked_42 rfl rfl ?_
      refine g_iconst (pc := 43) dX4_forked_43 ?_
      refine g_c_ge (tgt := 73) (pc := 44) dX4_forked_44 (by omega) (by decide) (fun c44 => absurd c44 (by omega)) (fun c44 => ?_)
      refine g_aload_n (i := 0) (pc := 47) dX4_forked_47 rfl rfl ?_
      refine g_iload_n (i := 2) (pc := 48) dX4_forked_48 rfl rfl ?_
      refine g_iload_n (i := 3) (pc := 49) dX4_forked_49 rfl rfl ?_
      refine g_aload_n (i := 0) (pc := 50) dX4_forked_50 rfl rfl ?_
      refine g_iload_n (i := 1) (pc := 51) dX4_forked_51 rfl rfl ?_
      refine g_iload_n (i := 3) (pc := 52) dX4_forked_52 rfl rfl ?_
      refine g_v2 (pc := 53) okV_X4_isBig rfl l_X4_60 dX4_forked_53 (c_79) hc_4 (by decide) (by decide) (Nat.le_of_ble_eq_true rfl) (t_X4_isBig hi (by omega) (by omega)) rfl ?_
      simp only [Option.toList, List.cons_append, List.nil_append]
      refine G.eqS (v' := vI (b2 (big (s_fb (s_fk (s_setex (n_st ν) (lup (n_st ν)).toNat 1) p (lup (n_st ν)) 16) p (lup (n_st ν)) k) (p) ((k : Int))))) rfl ?_
      have bb := b2_rng (big (s_fb (s_fk (s_setex (n_st ν) (lup (n_st ν)).toNat 1) p (lup (n_st ν)) 16) p (lup (n_st ν)) k) (p) ((k : Int)))
      refine g_z_eq (tgt := 63) (pc := 56) dX4_forked_56 (by omega) (by decide) (fun c56 => ?_) (fun c56 => ?_)
      · skip
        have bzz : b2 (big (s_fb (s_fk (s_setex (n_st ν) (lup (n_st ν)).toNat 1) p (lup (n_st ν)) 16) p (lup (n_st ν)) k) p k) = 0 := by omega
        refine g_iconst (pc := 63) dX4_forked_63 ?_
        refine g_v3 (pc := 64) okV_X4_setBig rfl l_X4_87 dX4_forked_64 (c_79) hc_4 (by decide) (by decide) (Nat.le_of_ble_eq_true rfl) (t_X4_setBig hi (by omega) (by omega) (by omega)) (by rw [c_len, c_len]) ?_
        simp only [Option.toList, List.cons_append, List.nil_append]
        refine g_iinc (pc := 67) dX4_forked_67 rfl (by decide) rfl ?_
        simp only [List.set_cons_succ, List.set_cons_zero]
        refine g_goto (tgt := 42) (pc := 70) dX4_forked_70 (by decide) ?_
        refine G.eqw (congrArg (fun z => cW κ (dE (n_setst ν z)) o) ?_) ih
        show s_setbg (s_fb (s_fk (s_setex (n_st ν) (lup (n_st ν)).toNat 1) p (lup (n_st ν)) 16) p (lup (n_st ν)) k) (4 * lup (n_st ν) + k).toNat 0 = s_setbg (s_fb (s_fk (s_setex (n_st ν) (lup (n_st ν)).toNat 1) p (lup (n_st ν)) 16) p (lup (n_st ν)) k) (4 * lup (n_st ν) + k).toNat (b2 (big (s_fb (s_fk (s_setex (n_st ν) (lup (n_st ν)).toNat 1) p (lup (n_st ν)) 16) p (lup (n_st ν)) k) p k))
        rw [show b2 (big (s_fb (s_fk (s_setex (n_st ν) (lup (n_st ν)).toNat 1) p (lup (n_st ν)) 16) p (lup (n_st ν)) k) p k) = 0 from bzz]
      · skip
        have bzz : b2 (big (s_fb (s_fk (s_setex (n_st ν) (lup (n_st ν)).toNat 1) p (lup (n_st ν)) 16) p (lup (n_st ν)) k) p k) = 1 := by omega
        refine g_iconst (pc := 59) dX4_forked_59 ?_
        refine g_goto (tgt := 64) (pc := 60) dX4_forked_60 (by decide) ?_
        refine g_v3 (pc := 64) okV_X4_setBig rfl l_X4_87 dX4_forked_64 (c_79) hc_4 (by decide) (by decide) (Nat.le_of_ble_eq_true rfl) (t_X4_setBig hi (by omega) (by omega) (by omega)) (by rw [c_len, c_len]) ?_
        simp only [Option.toList, List.cons_append, List.nil_append]
        refine g_iinc (pc := 67) dX4_forked_67 rfl (by decide) rfl ?_
        simp only [List.set_cons_succ, List.set_cons_zero]
        refine g_goto (tgt := 42) (pc := 70) dX4_forked_70 (by decide) ?_
        refine G.eqw (congrArg (fun z => cW κ (dE (n_setst ν z)) o) ?_) ih
        show s_setbg (s_fb (s_fk (s_setex (n_st ν) (lup (n_st ν)).toNat 1) p (lup (n_st ν)) 16) p (lup (n_st ν)) k) (4 * lup (n_st ν) + k).toNat 1 = s_setbg (s_fb (s_fk (s_setex (n_st ν) (lup (n_st ν)).toNat 1) p (lup (n_st ν)) 16) p (lup (n_st ν)) k) (4 * lup (n_st ν) + k).toNat (b2 (big (s_fb (s_fk (s_setex (n_st ν) (lup (n_st ν)).toNat 1) p (lup (n_st ν)) 16) p (lup (n_st ν)) k) p k))
        rw [show b2 (big (s_fb (s_fk (s_setex (n_st ν) (lup (n_st ν)).toNat 1) p (lup (n_st ν)) 16) p (lup (n_st ν)) k) p k) = 1 from bzz]
  · intro k hk ih
    have hi := inv_fk hi9 (p := p) (c := lup (n_st ν)) ⟨by omega, by omega, hxe⟩ k (by omega)
    show G _ _ _ _ _ _ _ _ _ _ _
    refine g_iload_n (i := 3) (pc := 16) dX4_forked_16 rfl rfl ?_
    refine g_bipush (pc := 17) dX4_forked_17 (by decide) ?_
    refine g_c_ge (tgt := 40) (pc := 19) dX4_forked_19 (by omega) (by decide) (fun c19 => absurd c19 (by omega)) (fun c19 => ?_)
    refine g_aload_n (i := 0) (pc := 22) dX4_forked_22 rfl rfl ?_
    refine g_iload_n (i := 2) (pc := 23) dX4_forked_23 rfl rfl ?_
    refine g_iload_n (i := 3) (pc := 24) dX4_forked_24 rfl rfl ?_
    refine g_aload_n (i := 0) (pc := 25) dX4_forked_25 rfl rfl ?_
    refine g_iload_n (i := 1) (pc := 26) dX4_forked_26 rfl rfl ?_
    refine g_iload_n (i := 3) (pc := 27) dX4_forked_27 rfl rfl ?_
    refine g_v2 (pc := 28) okV_X4_frameOf rfl l_X4_53 dX4_forked_28 (c_79) hc_4 (by decide) (by decide) (Nat.le_of_ble_eq_true rfl) (t_X4_frameOf hi (by omega) (by omega)) rfl ?_
    simp only [Option.toList, List.cons_append, List.nil_append]
    refine G.eqS (v' := vI (fo (s_fk (s_setex (n_st ν) (lup (n_st ν)).toNat 1) p (lup (n_st ν)) k) (p) ((k : Int)))) rfl ?_
    have bb := fo_rng (σ := (s_fk (s_setex (n_st ν) (lup (n_st ν)).toNat 1) p (lup (n_st ν)) k)) hi (p) ((k : Int))
    refine g_v3 (pc := 31) okV_X4_setFrame rfl l_X4_83 dX4_forked_31 (c_79) hc_4 (by decide) (by decide) (Nat.le_of_ble_eq_true rfl) (t_X4_setFrame hi (by omega) (by omega) (by omega)) (by rw [c_len, c_len]) ?_
    simp only [Option.toList, List.cons_append, List.nil_append]
    refine g_iinc (pc := 34) dX4_forked_34 rfl (by decide) rfl ?_
    simp only [List.set_cons_succ, List.set_cons_zero]
    refine g_goto (tgt := 16) (pc := 37) dX4_forked_37 (by decide) ?_
    exact ih
set_option maxRecDepth 20000 in
set_option maxHeartbeats 4000000 in
theorem t_X4_ended {κ : KT} {ν : NT} {o : Nat → Int} {al : Bool} (hi : Inv (n_st ν)) {p : Int} (h_p : 0 ≤ p ∧ p < 4) : GM M_X4_ended al [vR 79, vI p] (cW κ (dE ν) o) 0 0 (dt (some (vI (nff (s_le (n_st ν) p 16) - nff (n_st ν)))) (cW κ (dE (n_setst ν (s_end (n_st ν) p))) o)) := by
  show G _ none _ _ 0 [some (vR 79), some (vI p), none, none] [] _ _ _ _
  have hi9 := hi
  refine g_aload_n (i := 0) (pc := 0) dX4_ended_0 rfl rfl ?_
  refine g_v0 (pc := 1) okV_X4_freeFrames rfl l_X4_103 dX4_ended_1 (c_79) hc_4 (by decide) (by decide) (Nat.le_of_ble_eq_true rfl) (t_X4_freeFrames hi) rfl ?_
  simp only [Option.toList, List.cons_append, List.nil_append]
  have bb := nff_rng (n_st ν)
  refine g_istore_n (i := 2) (pc := 4) dX4_ended_4 rfl (by decide) rfl ?_
  simp only [List.set_cons_succ, List.set_cons_zero]
  refine g_iconst (pc := 5) dX4_ended_5 ?_
  refine g_istore_n (i := 3) (pc := 6) dX4_ended_6 rfl (by decide) rfl ?_
  simp only [List.set_cons_succ, List.set_cons_zero]
  refine lp_up (P := fun k => G M_X4_ended none al al 7 [some (vR 79), some (vI p), some (vI (nff (n_st ν))), some (vI k)] [] (cW κ (dE (n_setst ν (s_le (n_st ν) p k))) o) 0 0 (dt (some (vI (nff (s_le (n_st ν) p 16) - nff (n_st ν)))) (cW κ (dE (n_setst ν (s_end (n_st ν) p))) o))) 16 ?_ ?_ 0 (Nat.zero_le _)
  · have hi := inv_le hi9 h_p 16 (by omega)
    show G _ _ _ _ _ _ _ _ _ _ _
    refine g_iload_n (i := 3) (pc := 7) dX4_ended_7 rfl rfl ?_
    refine g_bipush (pc := 8) dX4_ended_8 (by decide) ?_
    refine g_c_ge (tgt := 26) (pc := 10) dX4_ended_10 (by omega) (by decide) (fun c10 => ?_) (fun c10 => absurd c10 (by omega))
    refine g_iconst (pc := 26) dX4_ended_26 ?_
    refine g_istore_n (i := 3) (pc := 27) dX4_ended_27 rfl (by decide) rfl ?_
    simp only [List.set_cons_succ, List.set_cons_zero]
    have hi8 := hi
    refine lp_up (P := fun k => G M_X4_ended none al al 28 [some (vR 79), some (vI p), some (vI (nff (n_st ν))), some (vI k)] [] (cW κ (dE (n_setst ν (s_ls (s_le (n_st ν) p 16) p k))) o) 0 0 (dt (some (vI (nff (s_le (n_st ν) p 16) - nff (n_st ν)))) (cW κ (dE (n_setst ν (s_end (n_st ν) p))) o))) 4 ?_ ?_ 0 (Nat.zero_le _)
    · have hi := inv_ls hi8 h_p 4 (by omega)
      show G _ _ _ _ _ _ _ _ _ _ _
      refine g_iload_n (i := 3) (pc := 28) dX4_ended_28 rfl rfl ?_
      refine g_iconst (pc := 29) dX4_ended_29 ?_
      refine g_c_ge (tgt := 46) (pc := 30) dX4_ended_30 (by omega) (by decide) (fun c30 => ?_) (fun c30 => absurd c30 (by omega))
      refine g_aload_n (i := 0) (pc := 46) dX4_ended_46 rfl rfl ?_
      refine g_getf (pc := 47) f_X4_7 dX4_ended_47 (c_79) rfl ?_
      refine g_iconst (pc := 50) dX4_ended_50 ?_
      refine g_iload_n (i := 1) (pc := 51) dX4_ended_51 rfl rfl ?_
      refine g_iadd (pc := 52) dX4_ended_52 ?_
      refine g_iconst (pc := 53) dX4_ended_53 ?_
      refine g_iast (pc := 54) dX4_ended_54 c_80 (by omega) ?_
      refine G.eqw (w4_ex (k := p.toNat) (by omega) (by omega)) ?_
      have hi : Inv (n_st (n_setst ν (s_end (n_st ν) p))) := inv_end hi9 h_p
      refine g_aload_n (i := 0) (pc := 55) dX4_ended_55 rfl rfl ?_
      refine g_v0 (pc := 56) okV_X4_freeFrames rfl l_X4_103 dX4_ended_56 (c_79) hc_4 (by decide) (by decide) (Nat.le_of_ble_eq_true rfl) (t_X4_freeFrames hi) rfl ?_
      simp only [Option.toList, List.cons_append, List.nil_append]
      refine G.eqS (v' := vI (nff (s_end (n_st ν) p))) rfl ?_
      have bb := nff_rng (s_end (n_st ν) p)
      refine g_iload_n (i := 2) (pc := 59) dX4_ended_59 rfl rfl ?_
      refine g_isub (pc := 60) dX4_ended_60 ?_
      refine g_iret (pc := 61) rfl dX4_ended_61 (fun h => h) ?_
      refine dt_i ?_ rfl
      exact congrArg (fun z => z - nff (n_st ν)) (s_ext_end (n_st ν) p)
    · intro k hk ih
      have hi := inv_ls hi8 h_p k (by omega)
      show G _ _ _ _ _ _ _ _ _ _ _
      refine g_iload_n (i := 3) (pc := 28) dX4_ended_28 rfl rfl ?_
      refine g_iconst (pc := 29) dX4_ended_29 ?_
      refine g_c_ge (tgt := 46) (pc := 30) dX4_ended_30 (by omega) (by decide) (fun c30 => absurd c30 (by omega)) (fun c30 => ?_)
      refine g_aload_n (i := 0) (pc := 33) dX4_ended_33 rfl rfl ?_
      refine g_iload_n (i := 1) (pc := 34) dX4_ended_34 rfl rfl ?_
      refine g_iload_n (i := 3) (pc := 35) dX4_ended_35 rfl rfl ?_
      refine g_iconst (pc := 36) dX4_ended_36 ?_
      refine g_v3 (pc := 37) okV_X4_setBig rfl l_X4_87 dX4_ended_37 (c_79) hc_4 (by decide) (by decide) (Nat.le_of_ble_eq_true rfl) (t_X4_setBig hi (by omega) (by omega) (by omega)) (by rw [c_len, c_len]) ?_
      simp only [Option.toList, List.cons_append, List.nil_append]
      refine g_iinc (pc := 40) dX4_ended_40 rfl (by decide) rfl ?_
      simp only [List.set_cons_succ, List.set_cons_zero]
      refine g_goto (tgt := 28) (pc := 43) dX4_ended_43 (by decide) ?_
      exact ih
  · intro k hk ih
    have hi := inv_le hi9 h_p k (by omega)
    show G _ _ _ _ _ _ _ _ _ _ _
    refine g_iload_n (i := 3) (pc := 7) dX4_ended_7 rfl rfl ?_
    refine g_bipush (pc := 8) dX4_ended_8 (by decide) ?_
    refine g_c_ge (tgt := 26) (pc := 10) dX4_ended_10 (by omega) (by decide) (fun c10 => absurd c10 (by omega)) (fun c10 => ?_)
    refine g_aload_n (i := 0) (pc := 13) dX4_ended_13 rfl rfl ?_
    refine g_iload_n (i := 1) (pc := 14) dX4_ended_14 rfl rfl ?_
    refine g_iload_n (i := 3) (pc := 15) dX4_ended_15 rfl rfl ?_
    refine g_iconst (pc := 16) dX4_ended_16 ?_
    refine g_v3 (pc := 17) okV_X4_setFrame rfl l_X4_83 dX4_ended_17 (c_79) hc_4 (by decide) (by decide) (Nat.le_of_ble_eq_true rfl) (t_X4_setFrame hi (by omega) (by omega) (by omega)) (by rw [c_len, c_len]) ?_
    simp only [Option.toList, List.cons_append, List.nil_append]
    refine g_iinc (pc := 20) dX4_ended_20 rfl (by decide) rfl ?_
    simp only [List.set_cons_succ, List.set_cons_zero]
    refine g_goto (tgt := 7) (pc := 23) dX4_ended_23 (by decide) ?_
    exact ih
set_option maxRecDepth 20000 in
set_option maxHeartbeats 4000000 in
theorem t_X4_married {κ : KT} {ν : NT} {o : Nat → Int} {al : Bool} (hi : Inv (n_st ν)) {p g : Int} (h_gr : hasGr (n_st ν) p g = true) (h_w : wn (n_st ν) p g = 0) : GM M_X4_married al [vR 79, vI p, vI g] (cW κ (dE ν) o) 0 0 (dt (some (vI (if ip (n_st ν) p g = true then 0 else 4))) (cW κ (dE (n_setst ν (s_mar (n_st ν) p g))) o)) := by
  show G _ none _ _ 0 [some (vR 79), some (vI p), some (vI g), none, none, none] [] _ _ _ _
  obtain ⟨⟨h_p1, h_p2, h_e⟩, h_g1, h_g2⟩ := ex_gr h_gr
  obtain ⟨n1, n2, n3, n4⟩ := wn_0 h_w
  have h_f : ∀ j : Nat, j < 4 → fo (n_st ν) p (4 * g + j) ≠ -1 := fun j hj => pf_all n2 hj
  have hi9 := hi
  refine g_aload_n (i := 0) (pc := 0) dX4_married_0 rfl rfl ?_
  refine g_iload_n (i := 1) (pc := 1) dX4_married_1 rfl rfl ?_
  refine g_iload_n (i := 2) (pc := 2) dX4_married_2 rfl rfl ?_
  refine g_v2 (pc := 3) okV_X4_isInPlace rfl l_X4_106 dX4_married_3 (c_79) hc_4 (by decide) (by decide) (Nat.le_of_ble_eq_true rfl) (t_X4_isInPlace hi (by omega) (by omega)) rfl ?_
  simp only [Option.toList, List.cons_append, List.nil_append]
  have bb := b2_rng (ip (n_st ν) (p) (g))
  refine g_z_eq (tgt := 13) (pc := 6) dX4_married_6 (by omega) (by decide) (fun c6 => ?_) (fun c6 => ?_)
  · skip
    have h_i : ¬ ip (n_st ν) p g = true := b2_0.mp (by omega)
    have h_l : lfr (n_st ν) ≠ -1 := n4.resolve_left h_i
    rw [if_neg h_i]
    refine g_iconst (pc := 13) dX4_married_13 ?_
    refine g_istore_n (i := 3) (pc := 14) dX4_married_14 rfl (by decide) rfl ?_
    simp only [List.set_cons_succ, List.set_cons_zero]
    refine g_aload_n (i := 0) (pc := 15) dX4_married_15 rfl rfl ?_
    refine g_v0 (pc := 16) okV_X4_freeRun rfl l_X4_73 dX4_married_16 (c_79) hc_4 (by decide) (by decide) (Nat.le_of_ble_eq_true rfl) (t_X4_freeRun hi) rfl ?_
    simp only [Option.toList, List.cons_append, List.nil_append]
    have bb := lfr_rng (n_st ν)
    refine g_istore (pc := 19) dX4_married_19 (by decide) rfl ?_
    simp only [List.set_cons_succ, List.set_cons_zero]
    refine g_iconst (pc := 21) dX4_married_21 ?_
    refine g_istore (pc := 22) dX4_married_22 (by decide) rfl ?_
    simp only [List.set_cons_succ, List.set_cons_zero]
    refine lp_up (P := fun k => G M_X4_married none al al 24 [some (vR 79), some (vI p), some (vI g), some (vI 4), some (vI (lfr (n_st ν))), some (vI k)] [] (cW κ (dE (n_setst ν (s_mv (n_st ν) p g (lfr (n_st ν)) k))) o) 0 0 (dt (some (vI (4))) (cW κ (dE (n_setst ν (s_mar (n_st ν) p g))) o))) 4 ?_ ?_ 0 (Nat.zero_le _)
    · have hi := inv_mv hi9 (p := p) (g := g) (r := lfr (n_st ν)) ⟨h_p1, h_p2, h_e⟩ ⟨h_g1, h_g2⟩ (by omega) h_f 4 (by omega)
      show G _ _ _ _ _ _ _ _ _ _ _
      refine g_iload (pc := 24) dX4_married_24 rfl ?_
      refine g_iload_n (i := 3) (pc := 26) dX4_married_26 rfl rfl ?_
      refine g_c_ge (tgt := 84) (pc := 27) dX4_married_27 (by omega) (by decide) (fun c27 => ?_) (fun c27 => absurd c27 (by omega))
      refine g_aload_n (i := 0) (pc := 84) dX4_married_84 rfl rfl ?_
      refine g_iload_n (i := 1) (pc := 85) dX4_married_85 rfl rfl ?_
      refine g_iload_n (i := 2) (pc := 86) dX4_married_86 rfl rfl ?_
      refine g_iconst (pc := 87) dX4_married_87 ?_
      refine g_v3 (pc := 88) okV_X4_setBig rfl l_X4_87 dX4_married_88 (c_79) hc_4 (by decide) (by decide) (Nat.le_of_ble_eq_true rfl) (t_X4_setBig hi (by omega) (by omega) (by omega)) (by rw [c_len, c_len]) ?_
      simp only [Option.toList, List.cons_append, List.nil_append]
      refine g_aload_n (i := 0) (pc := 91) dX4_married_91 rfl rfl ?_
      refine g_getf (pc := 92) f_X4_7 dX4_married_92 (c_79) rfl ?_
      refine g_bipush (pc := 95) dX4_married_95 (by decide) ?_
      refine g_dup2 (pc := 97) dX4_married_97 (fun z h => nomatch h) (fun z h => nomatch h) ?_
      refine g_iald (pc := 98) dX4_married_98 (c_80) (by omega) ?_
      refine G.eqS (congrArg (fun z => vI z) (show _ = s_co (n_st (n_setst (n_setst ν (s_mv (n_st ν) p g (lfr (n_st ν)) 4)) (s_setbg (s_mv (n_st ν) p g (lfr (n_st ν)) 4) (4 * p + g).toNat (1)))) from rfl)) ?_
      refine g_iload_n (i := 3) (pc := 99) dX4_married_99 rfl rfl ?_
      refine g_iadd (pc := 100) dX4_married_100 ?_
      refine g_iast (pc := 101) dX4_married_101 c_80 (by decide) ?_
      refine G.eqw w4_co ?_
      refine g_iload_n (i := 3) (pc := 102) dX4_married_102 rfl rfl ?_
      refine g_iret (pc := 103) rfl dX4_married_103 (fun h => h) ?_
      refine dt_i rfl ?_
      unfold s_mar
      rw [if_neg h_i]
      rfl
    · intro k hk ih
      have hi := inv_mv hi9 (p := p) (g := g) (r := lfr (n_st ν)) ⟨h_p1, h_p2, h_e⟩ ⟨h_g1, h_g2⟩ (by omega) h_f k (by omega)
      have efo : fo (s_mv (n_st ν) p g (lfr (n_st ν)) k) p (4 * g + k) ≠ -1 := by
        rw [mv_fo ⟨h_p1, h_p2⟩ ⟨h_g1, h_g2⟩ hk]
        exact h_f k hk
      have evo : vo (s_mv (n_st ν) p g (lfr (n_st ν)) k) p (4 * g + k) = s_va (s_mv (n_st ν) p g (lfr (n_st ν)) k) (fo (s_mv (n_st ν) p g (lfr (n_st ν)) k) p (4 * g + k)).toNat := by
        unfold vo
        rw [if_neg efo]
      have efr := fo_rng hi p (4 * g + k)
      have efo2 : fo (n_st (n_setst ν (s_mv (n_st ν) p g (lfr (n_st ν)) k))) p (4 * g + k) ≠ -1 := efo
      show G _ _ _ _ _ _ _ _ _ _ _
      refine g_iload (pc := 24) dX4_married_24 rfl ?_
      refine g_iload_n (i := 3) (pc := 26) dX4_married_26 rfl rfl ?_
      refine g_c_ge (tgt := 84) (pc := 27) dX4_married_27 (by omega) (by decide) (fun c27 => absurd c27 (by omega)) (fun c27 => ?_)
      refine g_aload_n (i := 0) (pc := 30) dX4_married_30 rfl rfl ?_
      refine g_getf (pc := 31) f_X4_7 dX4_married_31 (c_79) rfl ?_
      refine g_bipush (pc := 34) dX4_married_34 (by decide) ?_
      refine g_iconst (pc := 36) dX4_married_36 ?_
      refine g_iload (pc := 37) dX4_married_37 rfl ?_
      refine g_imul (pc := 39) dX4_married_39 ?_
      refine g_iadd (pc := 40) dX4_married_40 ?_
      refine g_iload (pc := 41) dX4_married_41 rfl ?_
      refine g_iadd (pc := 43) dX4_married_43 ?_
      refine g_aload_n (i := 0) (pc := 44) dX4_married_44 rfl rfl ?_
      refine g_aload_n (i := 0) (pc := 45) dX4_married_45 rfl rfl ?_
      refine g_iload_n (i := 1) (pc := 46) dX4_married_46 rfl rfl ?_
      refine g_iconst (pc := 47) dX4_married_47 ?_
      refine g_iload_n (i := 2) (pc := 48) dX4_married_48 rfl rfl ?_
      refine g_imul (pc := 49) dX4_married_49 ?_
      refine g_iload (pc := 50) dX4_married_50 rfl ?_
      refine g_iadd (pc := 52) dX4_married_52 ?_
      refine g_v2 (pc := 53) okV_X4_frameOf rfl l_X4_53 dX4_married_53 (c_79) hc_4 (by decide) (by decide) (Nat.le_of_ble_eq_true rfl) (t_X4_frameOf hi (by omega) (by omega)) rfl ?_
      simp only [Option.toList, List.cons_append, List.nil_append]
      refine G.eqS (v' := vI (fo (s_mv (n_st ν) p g (lfr (n_st ν)) k) (p) (((4 * g) + (k : Int))))) rfl ?_
      have bb := fo_rng (σ := (s_mv (n_st ν) p g (lfr (n_st ν)) k)) hi (p) (((4 * g) + (k : Int)))
      refine g_v1 (pc := 56) okV_X4_valueOf rfl l_X4_109 dX4_married_56 (c_79) hc_4 (by decide) (by decide) (Nat.le_of_ble_eq_true rfl) (t_X4_valueOf hi (by omega)) rfl ?_
      simp only [Option.toList, List.cons_append, List.nil_append]
      refine G.eqS (v' := vI (s_va (s_mv (n_st ν) p g (lfr (n_st ν)) k) ((fo (s_mv (n_st ν) p g (lfr (n_st ν)) k) (p) (((4 * g) + (k : Int))))).toNat)) rfl ?_
      have bb := va_rng (σ := (s_mv (n_st ν) p g (lfr (n_st ν)) k)) hi ((fo (s_mv (n_st ν) p g (lfr (n_st ν)) k) (p) (((4 * g) + (k : Int)))))
      refine G.eqS (congrArg (fun z => vI z) (evo.symm)) ?_
      refine g_iast (pc := 59) dX4_married_59 c_80 (by omega) ?_
      refine G.eqw (w4_va (k := (4 * lfr (n_st ν) + k).toNat) (by omega) (by omega)) ?_
      have hi : Inv (n_st (n_setst (n_setst ν (s_mv (n_st ν) p g (lfr (n_st ν)) k)) (s_setva (n_st (n_setst ν (s_mv (n_st ν) p g (lfr (n_st ν)) k))) (4 * lfr (n_st ν) + k).toNat (vo (s_mv (n_st ν) p g (lfr (n_st ν)) k) p (4 * g + k))))) := inv_va (k := (4 * lfr (n_st ν) + k).toNat) (x := vo (s_mv (n_st ν) p g (lfr (n_st ν)) k) p (4 * g + k)) hi (by omega) (by rw [evo]; exact hi.2.2.2.2.1 _)
      refine g_aload_n (i := 0) (pc := 60) dX4_married_60 rfl rfl ?_
      refine g_iload_n (i := 1) (pc := 61) dX4_married_61 rfl rfl ?_
      refine g_iconst (pc := 62) dX4_married_62 ?_
      refine g_iload_n (i := 2) (pc := 63) dX4_married_63 rfl rfl ?_
      refine g_imul (pc := 64) dX4_married_64 ?_
      refine g_iload (pc := 65) dX4_married_65 rfl ?_
      refine g_iadd (pc := 67) dX4_married_67 ?_
      refine g_iconst (pc := 68) dX4_married_68 ?_
      refine g_iload (pc := 69) dX4_married_69 rfl ?_
      refine g_imul (pc := 71) dX4_married_71 ?_
      refine g_iload (pc := 72) dX4_married_72 rfl ?_
      refine g_iadd (pc := 74) dX4_married_74 ?_
      refine g_v3 (pc := 75) okV_X4_setFrame rfl l_X4_83 dX4_married_75 (c_79) hc_4 (by decide) (by decide) (Nat.le_of_ble_eq_true rfl) (t_X4_setFrame hi (by omega) (by omega) (by omega)) (by rw [c_len, c_len]) ?_
      simp only [Option.toList, List.cons_append, List.nil_append]
      refine g_iinc (pc := 78) dX4_married_78 rfl (by decide) rfl ?_
      simp only [List.set_cons_succ, List.set_cons_zero]
      refine g_goto (tgt := 24) (pc := 81) dX4_married_81 (by decide) ?_
      exact ih
  · skip
    have h_i : ip (n_st ν) p g = true := b2_1.mp (by omega)
    rw [if_pos h_i]
    refine g_iconst (pc := 9) dX4_married_9 ?_
    refine g_goto (tgt := 14) (pc := 10) dX4_married_10 (by decide) ?_
    refine g_istore_n (i := 3) (pc := 14) dX4_married_14 rfl (by decide) rfl ?_
    simp only [List.set_cons_succ, List.set_cons_zero]
    refine g_aload_n (i := 0) (pc := 15) dX4_married_15 rfl rfl ?_
    refine g_v0 (pc := 16) okV_X4_freeRun rfl l_X4_73 dX4_married_16 (c_79) hc_4 (by decide) (by decide) (Nat.le_of_ble_eq_true rfl) (t_X4_freeRun hi) rfl ?_
    simp only [Option.toList, List.cons_append, List.nil_append]
    have bb := lfr_rng (n_st ν)
    refine g_istore (pc := 19) dX4_married_19 (by decide) rfl ?_
    simp only [List.set_cons_succ, List.set_cons_zero]
    refine g_iconst (pc := 21) dX4_married_21 ?_
    refine g_istore (pc := 22) dX4_married_22 (by decide) rfl ?_
    simp only [List.set_cons_succ, List.set_cons_zero]
    refine g_iload (pc := 24) dX4_married_24 rfl ?_
    refine g_iload_n (i := 3) (pc := 26) dX4_married_26 rfl rfl ?_
    refine g_c_ge (tgt := 84) (pc := 27) dX4_married_27 (by omega) (by decide) (fun c27 => ?_) (fun c27 => absurd c27 (by omega))
    refine g_aload_n (i := 0) (pc := 84) dX4_married_84 rfl rfl ?_
    refine g_iload_n (i := 1) (pc := 85) dX4_married_85 rfl rfl ?_
    refine g_iload_n (i := 2) (pc := 86) dX4_married_86 rfl rfl ?_
    refine g_iconst (pc := 87) dX4_married_87 ?_
    refine g_v3 (pc := 88) okV_X4_setBig rfl l_X4_87 dX4_married_88 (c_79) hc_4 (by decide) (by decide) (Nat.le_of_ble_eq_true rfl) (t_X4_setBig hi (by omega) (by omega) (by omega)) (by rw [c_len, c_len]) ?_
    simp only [Option.toList, List.cons_append, List.nil_append]
    refine g_aload_n (i := 0) (pc := 91) dX4_married_91 rfl rfl ?_
    refine g_getf (pc := 92) f_X4_7 dX4_married_92 (c_79) rfl ?_
    refine g_bipush (pc := 95) dX4_married_95 (by decide) ?_
    refine g_dup2 (pc := 97) dX4_married_97 (fun z h => nomatch h) (fun z h => nomatch h) ?_
    refine g_iald (pc := 98) dX4_married_98 (c_80) (by omega) ?_
    refine G.eqS (congrArg (fun z => vI z) (show _ = s_co (n_st (n_setst (ν) (s_setbg (n_st ν) (4 * p + g).toNat (1)))) from rfl)) ?_
    refine g_iload_n (i := 3) (pc := 99) dX4_married_99 rfl rfl ?_
    refine g_iadd (pc := 100) dX4_married_100 ?_
    refine g_iast (pc := 101) dX4_married_101 c_80 (by decide) ?_
    refine G.eqw w4_co ?_
    refine g_iload_n (i := 3) (pc := 102) dX4_married_102 rfl rfl ?_
    refine g_iret (pc := 103) rfl dX4_married_103 (fun h => h) ?_
    refine dt_i rfl ?_
    unfold s_mar
    rw [if_pos h_i]
    rfl
set_option maxRecDepth 20000 in
set_option maxHeartbeats 4000000 in
theorem t_X4_torn {κ : KT} {ν : NT} {o : Nat → Int} {al : Bool} (hi : Inv (n_st ν)) {p g : Int} (h_p : 0 ≤ p ∧ p < 4) (h_g : 0 ≤ g ∧ g < 4) : GM M_X4_torn al [vR 79, vI p, vI g] (cW κ (dE ν) o) 0 0 (dt (some (vI (ro (n_st ν) p g))) (cW κ (dE (n_setst ν (s_torn (n_st ν) p g))) o)) := by
  show G _ none _ _ 0 [some (vR 79), some (vI p), some (vI g), none] [] _ _ _ _
  refine g_aload_n (i := 0) (pc := 0) dX4_torn_0 rfl rfl ?_
  refine g_iload_n (i := 1) (pc := 1) dX4_torn_1 rfl rfl ?_
  refine g_iload_n (i := 2) (pc := 2) dX4_torn_2 rfl rfl ?_
  refine g_v2 (pc := 3) okV_X4_runOf rfl l_X4_67 dX4_torn_3 (c_79) hc_4 (by decide) (by decide) (Nat.le_of_ble_eq_true rfl) (t_X4_runOf hi (by omega) (by omega)) rfl ?_
  simp only [Option.toList, List.cons_append, List.nil_append]
  have bb := ro_rng (σ := (n_st ν)) hi (p) (g)
  refine g_istore_n (i := 3) (pc := 6) dX4_torn_6 rfl (by decide) rfl ?_
  simp only [List.set_cons_succ, List.set_cons_zero]
  refine g_aload_n (i := 0) (pc := 7) dX4_torn_7 rfl rfl ?_
  refine g_iload_n (i := 1) (pc := 8) dX4_torn_8 rfl rfl ?_
  refine g_iload_n (i := 2) (pc := 9) dX4_torn_9 rfl rfl ?_
  refine g_iconst (pc := 10) dX4_torn_10 ?_
  refine g_v3 (pc := 11) okV_X4_setBig rfl l_X4_87 dX4_torn_11 (c_79) hc_4 (by decide) (by decide) (Nat.le_of_ble_eq_true rfl) (t_X4_setBig hi (by omega) (by omega) (by omega)) (by rw [c_len, c_len]) ?_
  simp only [Option.toList, List.cons_append, List.nil_append]
  refine g_aload_n (i := 0) (pc := 14) dX4_torn_14 rfl rfl ?_
  refine g_getf (pc := 15) f_X4_7 dX4_torn_15 (c_79) rfl ?_
  refine g_bipush (pc := 18) dX4_torn_18 (by decide) ?_
  refine g_dup2 (pc := 20) dX4_torn_20 (fun z h => nomatch h) (fun z h => nomatch h) ?_
  refine g_iald (pc := 21) dX4_torn_21 (c_80) (by omega) ?_
  refine G.eqS (congrArg (fun z => vI z) (show _ = s_te (n_st (n_setst (ν) (s_setbg (n_st ν) (4 * p + g).toNat (0)))) from rfl)) ?_
  refine g_iconst (pc := 22) dX4_torn_22 ?_
  refine g_iadd (pc := 23) dX4_torn_23 ?_
  refine g_iast (pc := 24) dX4_torn_24 c_80 (by decide) ?_
  refine G.eqw w4_te ?_
  refine g_iload_n (i := 3) (pc := 25) dX4_torn_25 rfl rfl ?_
  refine g_iret (pc := 26) rfl dX4_torn_26 (fun h => h) ?_
  exact dt_i rfl rfl
set_option maxRecDepth 20000 in
set_option maxHeartbeats 4000000 in
theorem t_X4_firstLoser {κ : KT} {ν : NT} {o : Nat → Int} {al : Bool} (hi : Inv (n_st ν)) : GM M_X4_firstLoser al [vR 79] (cW κ (dE ν) o) 0 0 (dt (some (vI (li (n_st ν)))) (cW κ (dE (ν)) o)) := by
  show G _ none _ _ 0 [some (vR 79), none, none, none] [] _ _ _ _
  refine g_iconst (pc := 0) dX4_firstLoser_0 ?_
  refine g_istore_n (i := 1) (pc := 1) dX4_firstLoser_1 rfl (by decide) rfl ?_
  simp only [List.set_cons_succ, List.set_cons_zero]
  refine g_bipush (pc := 2) dX4_firstLoser_2 (by decide) ?_
  refine g_istore_n (i := 2) (pc := 4) dX4_firstLoser_4 rfl (by decide) rfl ?_
  simp only [List.set_cons_succ, List.set_cons_zero]
  refine G.eqL (L' := [some (vR 79), some (vI (fx (fun k : Nat => !(big (n_st ν) ((k / 16 : Nat) : Int) ((k % 16 / 4 : Nat) : Int)) && decide (uo (n_st ν) ((k / 16 : Nat) : Int) ((k % 16 : Nat) : Int) = 1) && decide (vo (n_st ν) ((k / 16 : Nat) : Int) ((k % 16 : Nat) : Int) = 0)) 64 64)), some (vI (((64 : Nat) : Int) - 1)), none]) (by simp only [fx_n]; rfl) ?_
  refine lp_dn (P := fun k => G M_X4_firstLoser none al al 5 [some (vR 79), some (vI (fx (fun k : Nat => !(big (n_st ν) ((k / 16 : Nat) : Int) ((k % 16 / 4 : Nat) : Int)) && decide (uo (n_st ν) ((k / 16 : Nat) : Int) ((k % 16 : Nat) : Int) = 1) && decide (vo (n_st ν) ((k / 16 : Nat) : Int) ((k % 16 : Nat) : Int) = 0)) 64 k)), some (vI ((k : Int) - 1)), none] [] (cW κ (dE ν) o) 0 0 (dt (some (vI (li (n_st ν)))) (cW κ (dE (ν)) o))) 64 ?_ ?_
  · show G _ _ _ _ _ _ _ _ _ _ _
    have yf := fx_rng (fun k : Nat => !(big (n_st ν) ((k / 16 : Nat) : Int) ((k % 16 / 4 : Nat) : Int)) && decide (uo (n_st ν) ((k / 16 : Nat) : Int) ((k % 16 : Nat) : Int) = 1) && decide (vo (n_st ν) ((k / 16 : Nat) : Int) ((k % 16 : Nat) : Int) = 0)) 64 0
    
    refine g_iload_n (i := 2) (pc := 5) dX4_firstLoser_5 rfl rfl ?_
    refine g_z_lt (tgt := 63) (pc := 6) dX4_firstLoser_6 (by omega) (by decide) (fun c6 => ?_) (fun c6 => absurd c6 (by omega))
    refine g_iload_n (i := 1) (pc := 63) dX4_firstLoser_63 rfl rfl ?_
    refine g_iret (pc := 64) rfl dX4_firstLoser_64 (fun h => h) ?_
    exact dt_i (fx_0 _ _) rfl
  · intro k hk ih
    have yf := fx_rng (fun k : Nat => !(big (n_st ν) ((k / 16 : Nat) : Int) ((k % 16 / 4 : Nat) : Int)) && decide (uo (n_st ν) ((k / 16 : Nat) : Int) ((k % 16 : Nat) : Int) = 1) && decide (vo (n_st ν) ((k / 16 : Nat) : Int) ((k % 16 : Nat) : Int) = 0)) 64 (k + 1)
    
    refine G.eqL (L' := [some (vR 79), some (vI (fx (fun k : Nat => !(big (n_st ν) ((k / 16 : Nat) : Int) ((k % 16 / 4 : Nat) : Int)) && decide (uo (n_st ν) ((k / 16 : Nat) : Int) ((k % 16 : Nat) : Int) = 1) && decide (vo (n_st ν) ((k / 16 : Nat) : Int) ((k % 16 : Nat) : Int) = 0)) 64 (k + 1))), some (vI (k : Int)), none]) (congrArg (fun z => [some (vR 79), some (vI (fx (fun k : Nat => !(big (n_st ν) ((k / 16 : Nat) : Int) ((k % 16 / 4 : Nat) : Int)) && decide (uo (n_st ν) ((k / 16 : Nat) : Int) ((k % 16 : Nat) : Int) = 1) && decide (vo (n_st ν) ((k / 16 : Nat) : Int) ((k % 16 : Nat) : Int) = 0)) 64 (k + 1))), some (vI z), none]) (show ((k + 1 : Nat) : Int) - 1 = (k : Int) by omega)) ?_
    show G _ _ _ _ _ _ _ _ _ _ _
    refine g_iload_n (i := 2) (pc := 5) dX4_firstLoser_5 rfl rfl ?_
    refine g_z_lt (tgt := 63) (pc := 6) dX4_firstLoser_6 (by omega) (by decide) (fun c6 => absurd c6 (by omega)) (fun c6 => ?_)
    refine g_aload_n (i := 0) (pc := 9) dX4_firstLoser_9 rfl rfl ?_
    refine g_iload_n (i := 2) (pc := 10) dX4_firstLoser_10 rfl rfl ?_
    refine g_bipush (pc := 11) dX4_firstLoser_11 (by decide) ?_
    refine g_idiv (pc := 13) dX4_firstLoser_13 (by omega) (by omega) ?_
    refine G.eqS (congrArg (fun z => vI z) (n_dv k 16)) ?_
    refine g_iload_n (i := 2) (pc := 14) dX4_firstLoser_14 rfl rfl ?_
    refine g_bipush (pc := 15) dX4_firstLoser_15 (by decide) ?_
    refine g_irem (pc := 17) dX4_firstLoser_17 (by omega) (by omega) ?_
    refine G.eqS (congrArg (fun z => vI z) (n_md k 16)) ?_
    refine g_iconst (pc := 18) dX4_firstLoser_18 ?_
    refine g_idiv (pc := 19) dX4_firstLoser_19 (by omega) (by omega) ?_
    refine G.eqS (congrArg (fun z => vI z) (n_dv (k % 16) 4)) ?_
    refine g_v2 (pc := 20) okV_X4_isBig rfl l_X4_60 dX4_firstLoser_20 (c_79) hc_4 (by decide) (by decide) (Nat.le_of_ble_eq_true rfl) (t_X4_isBig hi (by omega) (by omega)) rfl ?_
    simp only [Option.toList, List.cons_append, List.nil_append]
    have bb := b2_rng (big (n_st ν) (((k / 16 : Nat) : Int)) (((k % 16 / 4 : Nat) : Int)))
    refine g_z_ne (tgt := 45) (pc := 23) dX4_firstLoser_23 (by omega) (by decide) (fun c23 => ?_) (fun c23 => ?_)
    · skip
      refine g_iconst (pc := 45) dX4_firstLoser_45 ?_
      refine g_istore_n (i := 3) (pc := 46) dX4_firstLoser_46 rfl (by decide) rfl ?_
      simp only [List.set_cons_succ, List.set_cons_zero]
      refine g_iload_n (i := 3) (pc := 47) dX4_firstLoser_47 rfl rfl ?_
      refine g_z_eq (tgt := 55) (pc := 48) dX4_firstLoser_48 (by omega) (by decide) (fun c48 => ?_) (fun c48 => absurd c48 (by omega))
      refine g_iload_n (i := 1) (pc := 55) dX4_firstLoser_55 rfl rfl ?_
      refine g_istore_n (i := 1) (pc := 56) dX4_firstLoser_56 rfl (by decide) rfl ?_
      simp only [List.set_cons_succ, List.set_cons_zero]
      refine g_iinc (pc := 57) dX4_firstLoser_57 rfl (by decide) rfl ?_
      simp only [List.set_cons_succ, List.set_cons_zero]
      refine g_goto (tgt := 5) (pc := 60) dX4_firstLoser_60 (by decide) ?_
      refine G.drop 3 ?_
      simp only [List.set_cons_succ, List.set_cons_zero]
      refine G.eqL (congrArg (fun z => [some (vR 79), some (vI (z)), some (vI ((k : Int) + (-1))), none]) ?_) ih
      rw [fx_s hk, if_neg (by rw [Bool.and_assoc, ← emp_uv hk, Bool.and_eq_true, Bool.not_eq_true', Bool.eq_false_iff]; rintro ⟨q1, q2⟩; have q3 := b2_0.mpr q1; have q4 := b2_1.mpr q2; omega)]
    · skip
      refine g_aload_n (i := 0) (pc := 26) dX4_firstLoser_26 rfl rfl ?_
      refine g_aload_n (i := 0) (pc := 27) dX4_firstLoser_27 rfl rfl ?_
      refine g_getf (pc := 28) f_X4_7 dX4_firstLoser_28 (c_79) rfl ?_
      refine g_iconst (pc := 31) dX4_firstLoser_31 ?_
      refine g_iload_n (i := 2) (pc := 32) dX4_firstLoser_32 rfl rfl ?_
      refine g_iadd (pc := 33) dX4_firstLoser_33 ?_
      refine g_iald (pc := 34) dX4_firstLoser_34 (c_80) (by omega) ?_
      refine G.eqS (congrArg (fun z => vI z) ((r_fr (by omega)).trans (congrArg (s_fr (n_st ν)) (show (4 + (k : Int) - 4).toNat = k by omega)))) ?_
      have z9 := hi.1 k
      refine g_v1 (pc := 35) okV_X4_isEmpty rfl l_X4_112 dX4_firstLoser_35 (c_79) hc_4 (by decide) (by decide) (Nat.le_of_ble_eq_true rfl) (t_X4_isEmpty hi (by omega)) rfl ?_
      simp only [Option.toList, List.cons_append, List.nil_append]
      have bb := b2_rng (emp (n_st ν) ((s_fr (n_st ν) k)))
      refine g_z_eq (tgt := 45) (pc := 38) dX4_firstLoser_38 (by omega) (by decide) (fun c38 => ?_) (fun c38 => ?_)
      · skip
        refine g_iconst (pc := 45) dX4_firstLoser_45 ?_
        refine g_istore_n (i := 3) (pc := 46) dX4_firstLoser_46 rfl (by decide) rfl ?_
        simp only [List.set_cons_succ, List.set_cons_zero]
        refine g_iload_n (i := 3) (pc := 47) dX4_firstLoser_47 rfl rfl ?_
        refine g_z_eq (tgt := 55) (pc := 48) dX4_firstLoser_48 (by omega) (by decide) (fun c48 => ?_) (fun c48 => absurd c48 (by omega))
        refine g_iload_n (i := 1) (pc := 55) dX4_firstLoser_55 rfl rfl ?_
        refine g_istore_n (i := 1) (pc := 56) dX4_firstLoser_56 rfl (by decide) rfl ?_
        simp only [List.set_cons_succ, List.set_cons_zero]
        refine g_iinc (pc := 57) dX4_firstLoser_57 rfl (by decide) rfl ?_
        simp only [List.set_cons_succ, List.set_cons_zero]
        refine g_goto (tgt := 5) (pc := 60) dX4_firstLoser_60 (by decide) ?_
        refine G.drop 3 ?_
        simp only [List.set_cons_succ, List.set_cons_zero]
        refine G.eqL (congrArg (fun z => [some (vR 79), some (vI (z)), some (vI ((k : Int) + (-1))), none]) ?_) ih
        rw [fx_s hk, if_neg (by rw [Bool.and_assoc, ← emp_uv hk, Bool.and_eq_true, Bool.not_eq_true', Bool.eq_false_iff]; rintro ⟨q1, q2⟩; have q3 := b2_0.mpr q1; have q4 := b2_1.mpr q2; omega)]
      · skip
        refine g_iconst (pc := 41) dX4_firstLoser_41 ?_
        refine g_goto (tgt := 46) (pc := 42) dX4_firstLoser_42 (by decide) ?_
        refine g_istore_n (i := 3) (pc := 46) dX4_firstLoser_46 rfl (by decide) rfl ?_
        simp only [List.set_cons_succ, List.set_cons_zero]
        refine g_iload_n (i := 3) (pc := 47) dX4_firstLoser_47 rfl rfl ?_
        refine g_z_eq (tgt := 55) (pc := 48) dX4_firstLoser_48 (by omega) (by decide) (fun c48 => absurd c48 (by omega)) (fun c48 => ?_)
        refine g_iload_n (i := 2) (pc := 51) dX4_firstLoser_51 rfl rfl ?_
        refine g_goto (tgt := 56) (pc := 52) dX4_firstLoser_52 (by decide) ?_
        refine g_istore_n (i := 1) (pc := 56) dX4_firstLoser_56 rfl (by decide) rfl ?_
        simp only [List.set_cons_succ, List.set_cons_zero]
        refine g_iinc (pc := 57) dX4_firstLoser_57 rfl (by decide) rfl ?_
        simp only [List.set_cons_succ, List.set_cons_zero]
        refine g_goto (tgt := 5) (pc := 60) dX4_firstLoser_60 (by decide) ?_
        refine G.drop 3 ?_
        simp only [List.set_cons_succ, List.set_cons_zero]
        refine G.eqL (congrArg (fun z => [some (vR 79), some (vI (z)), some (vI ((k : Int) + (-1))), none]) ?_) ih
        rw [fx_s hk, if_pos (by rw [Bool.and_assoc, ← emp_uv hk, Bool.and_eq_true, Bool.not_eq_true', Bool.eq_false_iff]; exact ⟨b2_0.mp (by omega), b2_1.mp (by omega)⟩)]
set_option maxRecDepth 20000 in
set_option maxHeartbeats 4000000 in
theorem t_X4_firstTorn {κ : KT} {ν : NT} {o : Nat → Int} {al : Bool} (hi : Inv (n_st ν)) : GM M_X4_firstTorn al [vR 79] (cW κ (dE ν) o) 0 0 (dt (some (vI ((tb (n_st ν) 16).1))) (cW κ (dE (ν)) o)) := by
  show G _ none _ _ 0 [some (vR 79), none, none, none, none, none, none] [] _ _ _ _
  refine g_iconst (pc := 0) dX4_firstTorn_0 ?_
  refine g_istore_n (i := 1) (pc := 1) dX4_firstTorn_1 rfl (by decide) rfl ?_
  simp only [List.set_cons_succ, List.set_cons_zero]
  refine g_iconst (pc := 2) dX4_firstTorn_2 ?_
  refine g_istore_n (i := 2) (pc := 3) dX4_firstTorn_3 rfl (by decide) rfl ?_
  simp only [List.set_cons_succ, List.set_cons_zero]
  refine g_iconst (pc := 4) dX4_firstTorn_4 ?_
  refine g_istore_n (i := 3) (pc := 5) dX4_firstTorn_5 rfl (by decide) rfl ?_
  simp only [List.set_cons_succ, List.set_cons_zero]
  refine lp_up (P := fun k => G M_X4_firstTorn none al al 6 [some (vR 79), some (vI (tb (n_st ν) k).1), some (vI (tb (n_st ν) k).2), some (vI k), none, none, none] [] (cW κ (dE ν) o) 0 0 (dt (some (vI ((tb (n_st ν) 16).1))) (cW κ (dE (ν)) o))) 16 ?_ ?_ 0 (Nat.zero_le _)
  · show G _ _ _ _ _ _ _ _ _ _ _
    refine g_iload_n (i := 3) (pc := 6) dX4_firstTorn_6 rfl rfl ?_
    refine g_bipush (pc := 7) dX4_firstTorn_7 (by decide) ?_
    refine g_c_ge (tgt := 129) (pc := 9) dX4_firstTorn_9 (by omega) (by decide) (fun c9 => ?_) (fun c9 => absurd c9 (by omega))
    refine g_iload_n (i := 1) (pc := 129) dX4_firstTorn_129 rfl rfl ?_
    refine g_iret (pc := 130) rfl dX4_firstTorn_130 (fun h => h) ?_
    exact dt_i rfl rfl
  · intro k hk ih
    have y9 := tb_rng (n_st ν) k
    show G _ _ _ _ _ _ _ _ _ _ _
    refine g_iload_n (i := 3) (pc := 6) dX4_firstTorn_6 rfl rfl ?_
    refine g_bipush (pc := 7) dX4_firstTorn_7 (by decide) ?_
    refine g_c_ge (tgt := 129) (pc := 9) dX4_firstTorn_9 (by omega) (by decide) (fun c9 => absurd c9 (by omega)) (fun c9 => ?_)
    refine g_iconst (pc := 12) dX4_firstTorn_12 ?_
    refine g_istore (pc := 13) dX4_firstTorn_13 (by decide) rfl ?_
    simp only [List.set_cons_succ, List.set_cons_zero]
    refine g_aload_n (i := 0) (pc := 15) dX4_firstTorn_15 rfl rfl ?_
    refine g_getf (pc := 16) f_X4_7 dX4_firstTorn_16 (c_79) rfl ?_
    refine g_bipush (pc := 19) dX4_firstTorn_19 (by decide) ?_
    refine g_iload_n (i := 3) (pc := 21) dX4_firstTorn_21 rfl rfl ?_
    refine g_iadd (pc := 22) dX4_firstTorn_22 ?_
    refine g_iald (pc := 23) dX4_firstTorn_23 (c_80) (by omega) ?_
    refine G.eqS (congrArg (fun z => vI z) ((r_bg (by omega)).trans (congrArg (s_bg (n_st ν)) (show (68 + (k : Int) - 68).toNat = k by omega)))) ?_
    have z9 := hi.2.2.1 k
    have hbg : big (n_st ν) ((k / 4 : Nat) : Int) ((k % 4 : Nat) : Int) = true ↔ s_bg (n_st ν) k = 1 := by
      unfold big
      rw [decide_eq_true_eq, show (4 * ((k / 4 : Nat) : Int) + ((k % 4 : Nat) : Int)).toNat = k by omega]
      omega
    refine g_iconst (pc := 24) dX4_firstTorn_24 ?_
    refine g_c_ne (tgt := 45) (pc := 25) dX4_firstTorn_25 (by omega) (by decide) (fun c25 => ?_) (fun c25 => ?_)
    · skip
      refine g_iconst (pc := 45) dX4_firstTorn_45 ?_
      refine g_istore (pc := 46) dX4_firstTorn_46 (by decide) rfl ?_
      simp only [List.set_cons_succ, List.set_cons_zero]
      refine g_iconst (pc := 48) dX4_firstTorn_48 ?_
      refine g_istore (pc := 49) dX4_firstTorn_49 (by decide) rfl ?_
      simp only [List.set_cons_succ, List.set_cons_zero]
      refine g_iload (pc := 51) dX4_firstTorn_51 rfl ?_
      refine g_iconst (pc := 53) dX4_firstTorn_53 ?_
      refine g_c_ge (tgt := 98) (pc := 54) dX4_firstTorn_54 (by omega) (by decide) (fun c54 => absurd c54 (by omega)) (fun c54 => ?_)
      refine g_iload (pc := 57) dX4_firstTorn_57 rfl ?_
      refine g_z_eq (tgt := 98) (pc := 59) dX4_firstTorn_59 (by omega) (by decide) (fun c59 => ?_) (fun c59 => absurd c59 (by omega))
      refine g_iload (pc := 98) dX4_firstTorn_98 rfl ?_
      refine g_iload_n (i := 2) (pc := 100) dX4_firstTorn_100 rfl rfl ?_
      refine g_c_le (tgt := 108) (pc := 101) dX4_firstTorn_101 (by omega) (by decide) (fun c101 => ?_) (fun c101 => absurd c101 (by omega))
      refine g_iload_n (i := 1) (pc := 108) dX4_firstTorn_108 rfl rfl ?_
      refine g_istore_n (i := 1) (pc := 109) dX4_firstTorn_109 rfl (by decide) rfl ?_
      simp only [List.set_cons_succ, List.set_cons_zero]
      refine g_iload (pc := 110) dX4_firstTorn_110 rfl ?_
      refine g_iload_n (i := 2) (pc := 112) dX4_firstTorn_112 rfl rfl ?_
      refine g_c_le (tgt := 121) (pc := 113) dX4_firstTorn_113 (by omega) (by decide) (fun c113 => ?_) (fun c113 => absurd c113 (by omega))
      refine g_iload_n (i := 2) (pc := 121) dX4_firstTorn_121 rfl rfl ?_
      refine g_istore_n (i := 2) (pc := 122) dX4_firstTorn_122 rfl (by decide) rfl ?_
      simp only [List.set_cons_succ, List.set_cons_zero]
      refine g_iinc (pc := 123) dX4_firstTorn_123 rfl (by decide) rfl ?_
      simp only [List.set_cons_succ, List.set_cons_zero]
      refine g_goto (tgt := 6) (pc := 126) dX4_firstTorn_126 (by decide) ?_
      refine G.drop 6 (G.drop 5 (G.drop 4 ?_))
      simp only [List.set_cons_succ, List.set_cons_zero]
      refine G.eqL ?_ ih
      have e9 : tb (n_st ν) (k + 1) = tb (n_st ν) k := by
        rw [tb, if_neg]
        rintro ⟨q1, q2, q3⟩
        have q4 := hbg.mp q1
        omega
      rw [e9]
      rfl
    · skip
      refine g_aload_n (i := 0) (pc := 28) dX4_firstTorn_28 rfl rfl ?_
      refine g_iload_n (i := 3) (pc := 29) dX4_firstTorn_29 rfl rfl ?_
      refine g_iconst (pc := 30) dX4_firstTorn_30 ?_
      refine g_idiv (pc := 31) dX4_firstTorn_31 (by omega) (by omega) ?_
      refine G.eqS (congrArg (fun z => vI z) (n_dv k 4)) ?_
      refine g_iload_n (i := 3) (pc := 32) dX4_firstTorn_32 rfl rfl ?_
      refine g_iconst (pc := 33) dX4_firstTorn_33 ?_
      refine g_irem (pc := 34) dX4_firstTorn_34 (by omega) (by omega) ?_
      refine G.eqS (congrArg (fun z => vI z) (n_md k 4)) ?_
      refine g_v2 (pc := 35) okV_X4_sharedIn rfl l_X4_64 dX4_firstTorn_35 (c_79) hc_4 (by decide) (by decide) (Nat.le_of_ble_eq_true rfl) (t_X4_sharedIn hi (by omega) (by omega)) rfl ?_
      simp only [Option.toList, List.cons_append, List.nil_append]
      have bb := ps_rng (n_st ν) (((k / 4 : Nat) : Int)) (((k % 4 : Nat) : Int))
      refine g_z_ne (tgt := 45) (pc := 38) dX4_firstTorn_38 (by omega) (by decide) (fun c38 => ?_) (fun c38 => ?_)
      · skip
        refine g_iconst (pc := 45) dX4_firstTorn_45 ?_
        refine g_istore (pc := 46) dX4_firstTorn_46 (by decide) rfl ?_
        simp only [List.set_cons_succ, List.set_cons_zero]
        refine g_iconst (pc := 48) dX4_firstTorn_48 ?_
        refine g_istore (pc := 49) dX4_firstTorn_49 (by decide) rfl ?_
        simp only [List.set_cons_succ, List.set_cons_zero]
        refine g_iload (pc := 51) dX4_firstTorn_51 rfl ?_
        refine g_iconst (pc := 53) dX4_firstTorn_53 ?_
        refine g_c_ge (tgt := 98) (pc := 54) dX4_firstTorn_54 (by omega) (by decide) (fun c54 => absurd c54 (by omega)) (fun c54 => ?_)
        refine g_iload (pc := 57) dX4_firstTorn_57 rfl ?_
        refine g_z_eq (tgt := 98) (pc := 59) dX4_firstTorn_59 (by omega) (by decide) (fun c59 => ?_) (fun c59 => absurd c59 (by omega))
        refine g_iload (pc := 98) dX4_firstTorn_98 rfl ?_
        refine g_iload_n (i := 2) (pc := 100) dX4_firstTorn_100 rfl rfl ?_
        refine g_c_le (tgt := 108) (pc := 101) dX4_firstTorn_101 (by omega) (by decide) (fun c101 => ?_) (fun c101 => absurd c101 (by omega))
        refine g_iload_n (i := 1) (pc := 108) dX4_firstTorn_108 rfl rfl ?_
        refine g_istore_n (i := 1) (pc := 109) dX4_firstTorn_109 rfl (by decide) rfl ?_
        simp only [List.set_cons_succ, List.set_cons_zero]
        refine g_iload (pc := 110) dX4_firstTorn_110 rfl ?_
        refine g_iload_n (i := 2) (pc := 112) dX4_firstTorn_112 rfl rfl ?_
        refine g_c_le (tgt := 121) (pc := 113) dX4_firstTorn_113 (by omega) (by decide) (fun c113 => ?_) (fun c113 => absurd c113 (by omega))
        refine g_iload_n (i := 2) (pc := 121) dX4_firstTorn_121 rfl rfl ?_
        refine g_istore_n (i := 2) (pc := 122) dX4_firstTorn_122 rfl (by decide) rfl ?_
        simp only [List.set_cons_succ, List.set_cons_zero]
        refine g_iinc (pc := 123) dX4_firstTorn_123 rfl (by decide) rfl ?_
        simp only [List.set_cons_succ, List.set_cons_zero]
        refine g_goto (tgt := 6) (pc := 126) dX4_firstTorn_126 (by decide) ?_
        refine G.drop 6 (G.drop 5 (G.drop 4 ?_))
        simp only [List.set_cons_succ, List.set_cons_zero]
        refine G.eqL ?_ ih
        have e9 : tb (n_st ν) (k + 1) = tb (n_st ν) k := by
          rw [tb, if_neg]
          rintro ⟨q1, q2, q3⟩
          omega
        rw [e9]
        rfl
      · skip
        refine g_iconst (pc := 41) dX4_firstTorn_41 ?_
        refine g_goto (tgt := 46) (pc := 42) dX4_firstTorn_42 (by decide) ?_
        refine g_istore (pc := 46) dX4_firstTorn_46 (by decide) rfl ?_
        simp only [List.set_cons_succ, List.set_cons_zero]
        refine g_iconst (pc := 48) dX4_firstTorn_48 ?_
        refine g_istore (pc := 49) dX4_firstTorn_49 (by decide) rfl ?_
        simp only [List.set_cons_succ, List.set_cons_zero]
        refine lp_up (P := fun i => G M_X4_firstTorn none al al 51 [some (vR 79), some (vI (tb (n_st ν) k).1), some (vI (tb (n_st ν) k).2), some (vI k), some (vI (ct (fun i => emp (n_st ν) (s_fr (n_st ν) (4 * k + i))) i)), some (vI 1), some (vI i)] [] (cW κ (dE ν) o) 0 0 (dt (some (vI ((tb (n_st ν) 16).1))) (cW κ (dE (ν)) o))) 4 ?_ ?_ 0 (Nat.zero_le _)
        · have yz := emp_pz hi hk (by omega)
          have yc := ct_rng (fun i => emp (n_st ν) (s_fr (n_st ν) (4 * k + i))) 4
          show G _ _ _ _ _ _ _ _ _ _ _
          refine g_iload (pc := 51) dX4_firstTorn_51 rfl ?_
          refine g_iconst (pc := 53) dX4_firstTorn_53 ?_
          refine g_c_ge (tgt := 98) (pc := 54) dX4_firstTorn_54 (by omega) (by decide) (fun c54 => ?_) (fun c54 => absurd c54 (by omega))
          refine g_iload (pc := 98) dX4_firstTorn_98 rfl ?_
          refine g_iload_n (i := 2) (pc := 100) dX4_firstTorn_100 rfl rfl ?_
          refine g_c_le (tgt := 108) (pc := 101) dX4_firstTorn_101 (by omega) (by decide) (fun c101 => ?_) (fun c101 => ?_)
          · skip
            refine g_iload_n (i := 1) (pc := 108) dX4_firstTorn_108 rfl rfl ?_
            refine g_istore_n (i := 1) (pc := 109) dX4_firstTorn_109 rfl (by decide) rfl ?_
            simp only [List.set_cons_succ, List.set_cons_zero]
            refine g_iload (pc := 110) dX4_firstTorn_110 rfl ?_
            refine g_iload_n (i := 2) (pc := 112) dX4_firstTorn_112 rfl rfl ?_
            refine g_c_le (tgt := 121) (pc := 113) dX4_firstTorn_113 (by omega) (by decide) (fun c113 => ?_) (fun c113 => absurd c113 (by omega))
            refine g_iload_n (i := 2) (pc := 121) dX4_firstTorn_121 rfl rfl ?_
            refine g_istore_n (i := 2) (pc := 122) dX4_firstTorn_122 rfl (by decide) rfl ?_
            simp only [List.set_cons_succ, List.set_cons_zero]
            refine g_iinc (pc := 123) dX4_firstTorn_123 rfl (by decide) rfl ?_
            simp only [List.set_cons_succ, List.set_cons_zero]
            refine g_goto (tgt := 6) (pc := 126) dX4_firstTorn_126 (by decide) ?_
            refine G.drop 6 (G.drop 5 (G.drop 4 ?_))
            simp only [List.set_cons_succ, List.set_cons_zero]
            refine G.eqL ?_ ih
            have e9 : tb (n_st ν) (k + 1) = tb (n_st ν) k := by
              rw [tb, if_neg]
              rintro ⟨q1, q2, q3⟩
              omega
            rw [e9]
            rfl
          · skip
            refine g_iload_n (i := 3) (pc := 104) dX4_firstTorn_104 rfl rfl ?_
            refine g_goto (tgt := 109) (pc := 105) dX4_firstTorn_105 (by decide) ?_
            refine g_istore_n (i := 1) (pc := 109) dX4_firstTorn_109 rfl (by decide) rfl ?_
            simp only [List.set_cons_succ, List.set_cons_zero]
            refine g_iload (pc := 110) dX4_firstTorn_110 rfl ?_
            refine g_iload_n (i := 2) (pc := 112) dX4_firstTorn_112 rfl rfl ?_
            refine g_c_le (tgt := 121) (pc := 113) dX4_firstTorn_113 (by omega) (by decide) (fun c113 => absurd c113 (by omega)) (fun c113 => ?_)
            refine g_iload (pc := 116) dX4_firstTorn_116 rfl ?_
            refine g_goto (tgt := 122) (pc := 118) dX4_firstTorn_118 (by decide) ?_
            refine g_istore_n (i := 2) (pc := 122) dX4_firstTorn_122 rfl (by decide) rfl ?_
            simp only [List.set_cons_succ, List.set_cons_zero]
            refine g_iinc (pc := 123) dX4_firstTorn_123 rfl (by decide) rfl ?_
            simp only [List.set_cons_succ, List.set_cons_zero]
            refine g_goto (tgt := 6) (pc := 126) dX4_firstTorn_126 (by decide) ?_
            refine G.drop 6 (G.drop 5 (G.drop 4 ?_))
            simp only [List.set_cons_succ, List.set_cons_zero]
            refine G.eqL ?_ ih
            have e9 : tb (n_st ν) (k + 1) = ((k : Int), pz (n_st ν) ((k / 4 : Nat) : Int) ((k % 4 : Nat) : Int)) := by
              rw [tb, if_pos ⟨hbg.mpr (by omega), by omega, by omega⟩]
            rw [e9, ← yz]
            rfl
        · intro i hi4 ih2
          have yc := ct_rng (fun i => emp (n_st ν) (s_fr (n_st ν) (4 * k + i))) i
          show G _ _ _ _ _ _ _ _ _ _ _
          refine g_iload (pc := 51) dX4_firstTorn_51 rfl ?_
          refine g_iconst (pc := 53) dX4_firstTorn_53 ?_
          refine g_c_ge (tgt := 98) (pc := 54) dX4_firstTorn_54 (by omega) (by decide) (fun c54 => absurd c54 (by omega)) (fun c54 => ?_)
          refine g_iload (pc := 57) dX4_firstTorn_57 rfl ?_
          refine g_z_eq (tgt := 98) (pc := 59) dX4_firstTorn_59 (by omega) (by decide) (fun c59 => absurd c59 (by omega)) (fun c59 => ?_)
          refine g_iload (pc := 62) dX4_firstTorn_62 rfl ?_
          refine g_aload_n (i := 0) (pc := 64) dX4_firstTorn_64 rfl rfl ?_
          refine g_aload_n (i := 0) (pc := 65) dX4_firstTorn_65 rfl rfl ?_
          refine g_getf (pc := 66) f_X4_7 dX4_firstTorn_66 (c_79) rfl ?_
          refine g_iconst (pc := 69) dX4_firstTorn_69 ?_
          refine g_iconst (pc := 70) dX4_firstTorn_70 ?_
          refine g_iload_n (i := 3) (pc := 71) dX4_firstTorn_71 rfl rfl ?_
          refine g_imul (pc := 72) dX4_firstTorn_72 ?_
          refine g_iadd (pc := 73) dX4_firstTorn_73 ?_
          refine g_iload (pc := 74) dX4_firstTorn_74 rfl ?_
          refine g_iadd (pc := 76) dX4_firstTorn_76 ?_
          refine g_iald (pc := 77) dX4_firstTorn_77 (c_80) (by omega) ?_
          refine G.eqS (congrArg (fun z => vI z) ((r_fr (by omega)).trans (congrArg (s_fr (n_st ν)) (show (4 + 4 * (k : Int) + (i : Int) - 4).toNat = 4 * k + i by omega)))) ?_
          have z8 := hi.1 (4 * k + i)
          refine g_v1 (pc := 78) okV_X4_isEmpty rfl l_X4_112 dX4_firstTorn_78 (c_79) hc_4 (by decide) (by decide) (Nat.le_of_ble_eq_true rfl) (t_X4_isEmpty hi (by omega)) rfl ?_
          simp only [Option.toList, List.cons_append, List.nil_append]
          have bb := b2_rng (emp (n_st ν) ((s_fr (n_st ν) (4 * k + i))))
          refine g_z_eq (tgt := 88) (pc := 81) dX4_firstTorn_81 (by omega) (by decide) (fun c81 => ?_) (fun c81 => ?_)
          · skip
            refine g_iconst (pc := 88) dX4_firstTorn_88 ?_
            refine g_iadd (pc := 89) dX4_firstTorn_89 ?_
            refine g_istore (pc := 90) dX4_firstTorn_90 (by decide) rfl ?_
            simp only [List.set_cons_succ, List.set_cons_zero]
            refine g_iinc (pc := 92) dX4_firstTorn_92 rfl (by decide) rfl ?_
            simp only [List.set_cons_succ, List.set_cons_zero]
            refine g_goto (tgt := 51) (pc := 95) dX4_firstTorn_95 (by decide) ?_
            refine G.eqL (congrArg (fun z => [some (vR 79), some (vI (tb (n_st ν) k).1), some (vI (tb (n_st ν) k).2), some (vI k), some (vI z), some (vI 1), some (vI ((i : Int) + 1))]) ?_) ih2
            refine Eq.trans (Int.add_zero _) ?_
            exact (ct_no (b2_0.mp (by omega))).symm
          · skip
            refine g_iconst (pc := 84) dX4_firstTorn_84 ?_
            refine g_goto (tgt := 89) (pc := 85) dX4_firstTorn_85 (by decide) ?_
            refine g_iadd (pc := 89) dX4_firstTorn_89 ?_
            refine g_istore (pc := 90) dX4_firstTorn_90 (by decide) rfl ?_
            simp only [List.set_cons_succ, List.set_cons_zero]
            refine g_iinc (pc := 92) dX4_firstTorn_92 rfl (by decide) rfl ?_
            simp only [List.set_cons_succ, List.set_cons_zero]
            refine g_goto (tgt := 51) (pc := 95) dX4_firstTorn_95 (by decide) ?_
            refine G.eqL (congrArg (fun z => [some (vR 79), some (vI (tb (n_st ν) k).1), some (vI (tb (n_st ν) k).2), some (vI k), some (vI z), some (vI 1), some (vI ((i : Int) + 1))]) ?_) ih2
            exact (ct_yes (b2_1.mp (by omega))).symm
end MB
