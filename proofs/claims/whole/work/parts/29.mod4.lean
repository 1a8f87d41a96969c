/-! THE REFERENCE'S FACE, but for its text and its trials (printed by wip/whole/mod4.py, but for the first rows) -/
section MD4
def nR (ν : NT) (c : Int) (ν1 : NT) : NT := if c = 0 then n_setth ν1 0 else n_setth ν c
def nV (c v : Int) : Int := if c = 0 then v else 0
theorem df_0 {κ : KT} {ν ν1 : NT} {o : Nat → Int} {c v v' : Int} {w : List MC} (hc : c = 0) (hv : v' = v) (hw : w = cW κ (dE (n_setth ν1 0)) o) : dt (some (vI (nV c v))) (cW κ (dE (nR ν c ν1)) o) (.inl (some (vI v'))) w := by
  unfold nV nR
  rw [if_pos hc, if_pos hc]
  exact dt_i hv hw
theorem df_1 {κ : KT} {ν ν1 : NT} {o : Nat → Int} {c v k : Int} {w : List MC} (hc : c = k) (hk : k ≠ 0) (hw : w = cW κ (dE (n_setth ν k)) o) : dt (some (vI (nV c v))) (cW κ (dE (nR ν c ν1)) o) (.inl (some (vI 0))) w := by
  subst hc
  unfold nV nR
  rw [if_neg hk, if_neg hk]
  exact dt_i rfl hw
theorem nw {κ : KT} {ν ν' : NT} {o : Nat → Int} (h : ν = ν') : cW κ (dE ν) o = cW κ (dE ν') o := by rw [h]
/-- a state is remembered -/
def sh1 (f : Nat → SG) (j : Nat) : SG := if j < 13 then f (j + 1) else f j
def rmh (ν : NT) : Nat → SG := if n_re ν = 14 then va_up (sh1 (n_hi ν)) 13 (n_st ν) else va_up (n_hi ν) (n_re ν).toNat (n_st ν)
def rmr (ν : NT) : Int := if n_re ν = 14 then 14 else n_re ν + 1
def n_rem (ν : NT) : NT := n_setre (n_sethi ν (rmh ν)) (rmr ν)
theorem sh_up (H : Nat → Int) (k : Nat) : va_up (fun j => if j < k then H (j + 121) else H j) ((k : Int)).toNat (H (k + 121)) = fun j => if j < k + 1 then H (j + 121) else H j := by
  funext j
  unfold va_up
  by_cases q : j = ((k : Int)).toNat
  · rw [if_pos q, if_pos (by omega), show j = k by omega]
  · rw [if_neg q]
    show (if j < k then H (j + 121) else H j) = _
    by_cases z : j < k
    · rw [if_pos z, if_pos (by omega)]
    · rw [if_neg z, if_neg (by omega)]
theorem enc_sh (f : Nat → SG) : (fun j => if j < 1573 then encs 1694 f (j + 121) else encs 1694 f j) = encs 1694 (sh1 f) := by
  funext j
  unfold encs sh1
  by_cases q : j < 1573
  · rw [if_pos q, if_pos (by omega), if_pos (by omega), if_pos (by omega), show (j + 121) / 121 = j / 121 + 1 by omega, show (j + 121) % 121 = j % 121 by omega]
  · rw [if_neg q]
    by_cases z : j < 1694
    · rw [if_pos z, if_pos z, if_neg (by omega)]
    · rw [if_neg z, if_neg z]
def xn_app (ν : NT) (x : Int) : Int := if x < 0 ∨ 255 < x then 1 else if 100 ≤ n_tl ν then 2 else 0
def xn_un (ν : NT) : Int := if n_re ν = 0 then 1 else 0
def xn_rs (ν : NT) (x : Int) : Int := if 0 ≤ x ∧ x < 2 then (if n_sv ν x.toNat = 0 then 2 else 0) else 1
section
variable {M : MT} {scr : Option (Nat × (Nat → Int))} {al alE : Bool} {pc : Nat} {L : List (Option MV)} {S : List MV} {w w1 : List MC} {bc bs : Nat} {Q : (Option MV) ⊕ String → List MC → Prop}
theorem g_s4 {Mj : MT} {idx a b : Nat} {x y : Int} (hok : g_okS Mj 4) (hh : mH Mj = []) (hlink : Cond.methodLink (mY M).cls idx (mY Mj) ∈ g_WS) (hd : decode (mC M) pc = .ok (.invokestatic idx, 3))
    (hent : 4 ≤ mL Mj) (hroom : mF Mj + 1 ≤ mF M ∧ 8 + (mL Mj + 11) + mO Mj ≤ mO M) (hsz : g_sz S ≤ 8) (hj : GM Mj al [vR a, vI x, vR b, vI y] w 0 0 (dt none w1)) (hlen : w1.length = w.length) (kk : G M scr al alE (pc + 3) L S w1 bc bs Q) : G M scr al alE pc L (vI y :: vR b :: vI x :: vR a :: S) w bc bs Q :=
  g_callS (as := [vR a, vI x, vR b, vI y]) hok hh hlink hd rfl hent hroom hsz ⟨Nat.zero_le _, Nat.zero_le _⟩ hj (fun _ r w' h => by rw [h.2, hlen]; rfl) (fun r w' h => by cases h.1; rw [h.2]; exact kk) (fun E w' h => nomatch h.1)
theorem g_s1x {Mj : MT} {idx : Nat} {r0 : Option MV} {x : Int} (hok : g_okS Mj 1) (hh : mH Mj = []) (hlink : Cond.methodLink (mY M).cls idx (mY Mj) ∈ g_WS) (hd : decode (mC M) pc = .ok (.invokestatic idx, 3))
    (hent : 1 ≤ mL Mj) (hroom : mF Mj + 1 ≤ mF M ∧ 8 + (mL Mj + 11) + mO Mj ≤ mO M) (hsz : g_sz S ≤ 8) (hj : GM Mj al [vI x] w 0 0 (dt r0 w1)) (hlen : w1.length = w.length) (kk : G M scr al alE (pc + 3) L (r0.toList ++ S) w1 bc bs Q) : G M scr al alE pc L (vI x :: S) w bc bs Q :=
  g_callS (as := [vI x]) hok hh hlink hd rfl hent hroom hsz ⟨Nat.zero_le _, Nat.zero_le _⟩ hj (fun _ r w' h => by rw [h.2, hlen]; rfl) (fun r w' h => by cases h.1; rw [h.2]; exact kk) (fun E w' h => nomatch h.1)
end
theorem ct_lt {p : Nat → Bool} {j : Nat} : ∀ {k : Nat}, j < k → p j = true → ct p j < ct p k
  | 0, h, _ => absurd h (Nat.not_lt_zero j)
  | k + 1, h, hp => by
    rcases Nat.lt_or_ge j k with q | q
    · have h1 := ct_lt q hp
      rw [ct]
      split <;> omega
    · rw [show j = k by omega] at hp ⊢
      rw [ct_yes hp]
      omega
set_option maxRecDepth 20000 in
set_option maxHeartbeats 300000 in
theorem t_X4_isSlot {w : List MC} {al : Bool} {x : Int} (h_x : -2147483648 ≤ x ∧ x < 2147483648) : GM M_X4_isSlot al [vI x] (w) 0 0 (dt (some (vI (b2 (decide (0 ≤ x ∧ x < 2))))) w) := by
  show G _ none _ _ 0 [some (vI x)] [] _ _ _ _
  refine g_iload_n (i := 0) (pc := 0) dX4_isSlot_0 rfl rfl ?_
  refine g_z_eq (tgt := 9) (pc := 1) dX4_isSlot_1 (by omega) (by decide) (fun c1 => ?_) (fun c1 => ?_)
  · skip
    refine g_iconst (pc := 9) dX4_isSlot_9 ?_
    refine g_goto (tgt := 14) (pc := 10) dX4_isSlot_10 (by decide) ?_
    refine g_zret (pc := 14) rfl dX4_isSlot_14 (by omega) (fun h => h) ?_
    first
    | exact dt_i (b2_t (decide_eq_true (by omega))).symm rfl
    | exact dt_i (b2_f (fun q => absurd (of_decide_eq_true q) (by omega))).symm rfl
  · skip
    refine g_iload_n (i := 0) (pc := 4) dX4_isSlot_4 rfl rfl ?_
    refine g_iconst (pc := 5) dX4_isSlot_5 ?_
    refine g_c_ne (tgt := 13) (pc := 6) dX4_isSlot_6 (by omega) (by decide) (fun c6 => ?_) (fun c6 => ?_)
    · skip
      refine g_iconst (pc := 13) dX4_isSlot_13 ?_
      refine g_zret (pc := 14) rfl dX4_isSlot_14 (by omega) (fun h => h) ?_
      first
      | exact dt_i (b2_t (decide_eq_true (by omega))).symm rfl
      | exact dt_i (b2_f (fun q => absurd (of_decide_eq_true q) (by omega))).symm rfl
    · skip
      refine g_iconst (pc := 9) dX4_isSlot_9 ?_
      refine g_goto (tgt := 14) (pc := 10) dX4_isSlot_10 (by decide) ?_
      refine g_zret (pc := 14) rfl dX4_isSlot_14 (by omega) (fun h => h) ?_
      first
      | exact dt_i (b2_t (decide_eq_true (by omega))).symm rfl
      | exact dt_i (b2_f (fun q => absurd (of_decide_eq_true q) (by omega))).symm rfl
set_option maxRecDepth 20000 in
set_option maxHeartbeats 300000 in
theorem t_X4_remember {κ : KT} {ν : NT} {o : Nat → Int} {al : Bool} (hr : 0 ≤ n_re ν ∧ n_re ν ≤ 14) : GM M_X4_remember al [vR 79] (cW κ (dE ν) o) 0 0 (dt none (cW κ (dE (n_rem ν)) o)) := by
  show G _ none _ _ 0 [some (vR 79), none] [] _ _ _ _
  refine g_aload_n (i := 0) (pc := 0) dX4_remember_0 rfl rfl ?_
  refine g_getf (pc := 1) f_X4_154 dX4_remember_1 (c_79) rfl ?_
  refine G.eqS (v' := vI ((n_re ν))) rfl ?_
  refine g_bipush (pc := 4) dX4_remember_4 (by decide) ?_
  refine g_c_ne (tgt := 49) (pc := 6) dX4_remember_6 (by omega) (by decide) (fun c6 => ?_) (fun c6 => ?_)
  · skip
    refine g_aload_n (i := 0) (pc := 49) dX4_remember_49 rfl rfl ?_
    refine g_getf (pc := 50) f_X4_7 dX4_remember_50 (c_79) rfl ?_
    refine g_iconst (pc := 53) dX4_remember_53 ?_
    refine g_aload_n (i := 0) (pc := 54) dX4_remember_54 rfl rfl ?_
    refine g_getf (pc := 55) f_X4_19 dX4_remember_55 (c_79) rfl ?_
    refine g_aload_n (i := 0) (pc := 58) dX4_remember_58 rfl rfl ?_
    refine g_getf (pc := 59) f_X4_154 dX4_remember_59 (c_79) rfl ?_
    refine G.eqS (v' := vI ((n_re ν))) rfl ?_
    refine g_bipush (pc := 62) dX4_remember_62 (by decide) ?_
    refine g_imul (pc := 64) dX4_remember_64 ?_
    refine G.eqS (congrArg (fun z => vI z) (show _ = ((121 * ((n_re ν)).toNat : Nat) : Int) by omega)) ?_
    refine g_s4 (pc := 65) okS_X4_copy rfl l_X4_172 dX4_remember_65 (by decide) (by decide) (Nat.le_of_ble_eq_true rfl) (t_X4_copy (f := 0) (t := 121 * ((n_re ν)).toNat) c_80 c_83 (by decide) ⟨by omega, by omega⟩ ⟨by omega, by omega⟩) (List.length_set ..) ?_
    refine G.eqw (w' := cW κ (dE (n_sethi (ν) (va_up (n_hi ν) ((n_re ν)).toNat (n_st ν)))) o) (by exact (congrArg (fun z => (cW κ (dE (ν)) o).set 83 (cArr 0 1694 z)) (cp_sh (m := 1694) (i := ((n_re ν)).toNat) (f := (n_hi ν)) (σ := n_st ν) (by omega))).trans v_hi) ?_
    refine g_aload_n (i := 0) (pc := 68) dX4_remember_68 rfl rfl ?_
    refine g_dup (pc := 69) dX4_remember_69 (fun z h => nomatch h) ?_
    refine g_getf (pc := 70) f_X4_154 dX4_remember_70 (c_79) rfl ?_
    refine G.eqS (v' := vI ((n_re ν))) rfl ?_
    refine g_iconst (pc := 73) dX4_remember_73 ?_
    refine g_iadd (pc := 74) dX4_remember_74 ?_
    refine g_put (pc := 75) ft_X4_154 dX4_remember_75 (c_79) (Nat.le_of_ble_eq_true rfl) (fun _ => rfl) (fun _ => rfl) (fun h => nomatch h) ?_
    refine G.eqw v_re ?_
    refine g_vret (pc := 78) rfl dX4_remember_78 (fun h => h) ?_
    refine dt_v ?_
    have e1 : rmh ν = va_up (n_hi ν) (n_re ν).toNat (n_st ν) := by unfold rmh; rw [if_neg (by omega)]
    have e2 : rmr ν = n_re ν + 1 := by unfold rmr; rw [if_neg (by omega)]
    exact nw (by unfold n_rem; rw [e1, e2]; try rfl)
  · skip
    refine g_iconst (pc := 9) dX4_remember_9 ?_
    refine g_istore_n (i := 1) (pc := 10) dX4_remember_10 rfl (by decide) rfl ?_
    simp only [List.set_cons_succ, List.set_cons_zero]
    refine G.eqw (w' := cW κ (d_sethi (dE ν) (fun j => if j < 0 then encs 1694 (n_hi ν) (j + 121) else encs 1694 (n_hi ν) j)) o) (by
      refine Eq.trans (b := cW κ (d_sethi (dE ν) (encs 1694 (n_hi ν))) o) rfl (congrArg (fun f => cW κ (d_sethi (dE ν) f) o) ?_)
      funext j
      rw [if_neg (Nat.not_lt_zero j)]) ?_
    refine lp_up (P := fun k => G M_X4_remember none al al 11 [some (vR 79), some (vI k)] [] (cW κ (d_sethi (dE ν) (fun j => if j < k then encs 1694 (n_hi ν) (j + 121) else encs 1694 (n_hi ν) j)) o) 0 0 (dt none (cW κ (dE (n_rem ν)) o))) 1573 ?_ ?_ 0 (Nat.zero_le _)
    · refine G.eqw (w' := cW κ (dE (n_sethi ν (sh1 (n_hi ν)))) o) (congrArg (fun f => cW κ (d_sethi (dE ν) f) o) (enc_sh (n_hi ν))) ?_
      show G _ _ _ _ _ _ _ _ _ _ _
      refine g_iload_n (i := 1) (pc := 11) dX4_remember_11 rfl rfl ?_
      refine g_sipush (pc := 12) dX4_remember_12 (by decide) ?_
      refine g_c_ge (tgt := 39) (pc := 15) dX4_remember_15 (by omega) (by decide) (fun c15 => ?_) (fun c15 => absurd c15 (by omega))
      refine g_aload_n (i := 0) (pc := 39) dX4_remember_39 rfl rfl ?_
      refine g_dup (pc := 40) dX4_remember_40 (fun z h => nomatch h) ?_
      refine g_getf (pc := 41) f_X4_154 dX4_remember_41 (c_79) rfl ?_
      refine G.eqS (v' := vI ((n_re ν))) rfl ?_
      refine g_iconst (pc := 44) dX4_remember_44 ?_
      refine g_isub (pc := 45) dX4_remember_45 ?_
      refine g_put (pc := 46) ft_X4_154 dX4_remember_46 (c_79) (Nat.le_of_ble_eq_true rfl) (fun _ => rfl) (fun _ => rfl) (fun h => nomatch h) ?_
      refine G.eqw v_re ?_
      refine g_aload_n (i := 0) (pc := 49) dX4_remember_49 rfl rfl ?_
      refine g_getf (pc := 50) f_X4_7 dX4_remember_50 (c_79) rfl ?_
      refine g_iconst (pc := 53) dX4_remember_53 ?_
      refine g_aload_n (i := 0) (pc := 54) dX4_remember_54 rfl rfl ?_
      refine g_getf (pc := 55) f_X4_19 dX4_remember_55 (c_79) rfl ?_
      refine g_aload_n (i := 0) (pc := 58) dX4_remember_58 rfl rfl ?_
      refine g_getf (pc := 59) f_X4_154 dX4_remember_59 (c_79) rfl ?_
      refine G.eqS (v' := vI ((((n_re ν) - 1)))) rfl ?_
      refine g_bipush (pc := 62) dX4_remember_62 (by decide) ?_
      refine g_imul (pc := 64) dX4_remember_64 ?_
      refine G.eqS (congrArg (fun z => vI z) (show _ = ((121 * ((((n_re ν) - 1))).toNat : Nat) : Int) by omega)) ?_
      refine g_s4 (pc := 65) okS_X4_copy rfl l_X4_172 dX4_remember_65 (by decide) (by decide) (Nat.le_of_ble_eq_true rfl) (t_X4_copy (f := 0) (t := 121 * ((((n_re ν) - 1))).toNat) c_80 c_83 (by decide) ⟨by omega, by omega⟩ ⟨by omega, by omega⟩) (List.length_set ..) ?_
      refine G.eqw (w' := cW κ (dE (n_sethi (n_setre (n_sethi (ν) (sh1 (n_hi ν))) (((n_re ν) - 1))) (va_up (sh1 (n_hi ν)) ((((n_re ν) - 1))).toNat (n_st ν)))) o) (by exact (congrArg (fun z => (cW κ (dE (n_setre (n_sethi (ν) (sh1 (n_hi ν))) (((n_re ν) - 1)))) o).set 83 (cArr 0 1694 z)) (cp_sh (m := 1694) (i := ((((n_re ν) - 1))).toNat) (f := (sh1 (n_hi ν))) (σ := n_st ν) (by omega))).trans v_hi) ?_
      refine g_aload_n (i := 0) (pc := 68) dX4_remember_68 rfl rfl ?_
      refine g_dup (pc := 69) dX4_remember_69 (fun z h => nomatch h) ?_
      refine g_getf (pc := 70) f_X4_154 dX4_remember_70 (c_79) rfl ?_
      refine G.eqS (v' := vI ((((n_re ν) - 1)))) rfl ?_
      refine g_iconst (pc := 73) dX4_remember_73 ?_
      refine g_iadd (pc := 74) dX4_remember_74 ?_
      refine g_put (pc := 75) ft_X4_154 dX4_remember_75 (c_79) (Nat.le_of_ble_eq_true rfl) (fun _ => rfl) (fun _ => rfl) (fun h => nomatch h) ?_
      refine G.eqw v_re ?_
      refine g_vret (pc := 78) rfl dX4_remember_78 (fun h => h) ?_
      refine dt_v ?_
      have e1 : rmh ν = va_up (sh1 (n_hi ν)) (n_re ν - 1).toNat (n_st ν) := by unfold rmh; rw [if_pos (by omega), show (n_re ν - 1).toNat = 13 by omega]
      have e2 : rmr ν = n_re ν - 1 + 1 := by unfold rmr; rw [if_pos (by omega)]; omega
      exact nw (by unfold n_rem; rw [e1, e2]; try rfl)
    · intro k hk ih
      show G _ _ _ _ _ _ _ _ _ _ _
      refine g_iload_n (i := 1) (pc := 11) dX4_remember_11 rfl rfl ?_
      refine g_sipush (pc := 12) dX4_remember_12 (by decide) ?_
      refine g_c_ge (tgt := 39) (pc := 15) dX4_remember_15 (by omega) (by decide) (fun c15 => absurd c15 (by omega)) (fun c15 => ?_)
      refine g_aload_n (i := 0) (pc := 18) dX4_remember_18 rfl rfl ?_
      refine g_getf (pc := 19) f_X4_19 dX4_remember_19 (c_79) rfl ?_
      refine g_iload_n (i := 1) (pc := 22) dX4_remember_22 rfl rfl ?_
      refine g_aload_n (i := 0) (pc := 23) dX4_remember_23 rfl rfl ?_
      refine g_getf (pc := 24) f_X4_19 dX4_remember_24 (c_79) rfl ?_
      refine g_iload_n (i := 1) (pc := 27) dX4_remember_27 rfl rfl ?_
      refine g_bipush (pc := 28) dX4_remember_28 (by decide) ?_
      refine g_iadd (pc := 30) dX4_remember_30 ?_
      refine g_iald (pc := 31) dX4_remember_31 c_83 (by omega) ?_
      refine G.eqS (congrArg (fun z => vI z) (show _ = encs 1694 (n_hi ν) (k + 121) by
        show (if ((k : Int) + 121).toNat < k then encs 1694 (n_hi ν) (((k : Int) + 121).toNat + 121) else encs 1694 (n_hi ν) ((k : Int) + 121).toNat) = _
        rw [if_neg (by omega), show ((k : Int) + 121).toNat = k + 121 by omega])) ?_
      refine g_iast (pc := 32) dX4_remember_32 c_83 (by omega) ?_
      refine G.eqw w_hi ?_
      refine G.eqw (congrArg (fun f => cW κ (d_sethi (dE ν) f) o) (sh_up (encs 1694 (n_hi ν)) k)) ?_
      refine g_iinc (pc := 33) dX4_remember_33 rfl (by decide) rfl ?_
      simp only [List.set_cons_succ, List.set_cons_zero]
      refine g_goto (tgt := 11) (pc := 36) dX4_remember_36 (by decide) ?_
      exact ih
set_option maxRecDepth 20000 in
set_option maxHeartbeats 300000 in
theorem t_X4_save {κ : KT} {ν : NT} {o : Nat → Int} {al : Bool} (hN : NInv ν) {x : Int} (h_x : -2147483648 ≤ x ∧ x < 2147483648) : GM M_X4_save al [vR 79, vI x] (cW κ (dE ν) o) 0 0 (dt (some (vI (nV (xc_sv x) (nff (n_st ν))))) (cW κ (dE (nR ν (xc_sv x) (n_setsv (n_setsl ν (va_up (n_sl ν) x.toNat (n_st ν))) (va_up (n_sv ν) x.toNat 1)))) o)) := by
  show G _ none _ _ 0 [some (vR 79), some (vI x)] [] _ _ _ _
  have hi := hN.1
  have hr := hN.2.1
  refine g_aload_n (i := 0) (pc := 0) dX4_save_0 rfl rfl ?_
  refine g_iload_n (i := 1) (pc := 1) dX4_save_1 rfl rfl ?_
  refine g_s1x (pc := 2) okS_X4_isSlot rfl l_X4_233 dX4_save_2 (by decide) (by decide) (Nat.le_of_ble_eq_true rfl) (t_X4_isSlot (by omega)) rfl ?_
  simp only [Option.toList, List.cons_append, List.nil_append]
  have bb := b2_rng (decide (0 ≤ x ∧ x < 2))
  have b1 := b2_dec (p := 0 ≤ x ∧ x < 2)
  refine g_z_eq (tgt := 12) (pc := 5) dX4_save_5 (by omega) (by decide) (fun c5 => ?_) (fun c5 => ?_)
  · skip
    refine g_iconst (pc := 12) dX4_save_12 ?_
    refine g_put (pc := 13) ft_X4_34 dX4_save_13 (c_79) (Nat.le_of_ble_eq_true rfl) (fun _ => rfl) (fun _ => rfl) (fun h => nomatch h) ?_
    refine G.eqw v_th ?_
    refine g_aload_n (i := 0) (pc := 16) dX4_save_16 rfl rfl ?_
    refine g_getf (pc := 17) f_X4_34 dX4_save_17 (c_79) rfl ?_
    refine G.eqS (v' := vI (1)) rfl ?_
    refine g_z_le (tgt := 25) (pc := 20) dX4_save_20 (by omega) (by decide) (fun c20 => absurd c20 (by omega)) (fun c20 => ?_)
    refine g_iconst (pc := 23) dX4_save_23 ?_
    refine g_iret (pc := 24) rfl dX4_save_24 (fun h => h) ?_
    exact df_1 (k := 1) (by unfold xc_sv; rw [if_neg (by omega)]) (by decide) (nw rfl)
  · skip
    refine g_iconst (pc := 8) dX4_save_8 ?_
    refine g_goto (tgt := 13) (pc := 9) dX4_save_9 (by decide) ?_
    refine g_put (pc := 13) ft_X4_34 dX4_save_13 (c_79) (Nat.le_of_ble_eq_true rfl) (fun _ => rfl) (fun _ => rfl) (fun h => nomatch h) ?_
    refine G.eqw v_th ?_
    refine g_aload_n (i := 0) (pc := 16) dX4_save_16 rfl rfl ?_
    refine g_getf (pc := 17) f_X4_34 dX4_save_17 (c_79) rfl ?_
    refine G.eqS (v' := vI (0)) rfl ?_
    refine g_z_le (tgt := 25) (pc := 20) dX4_save_20 (by omega) (by decide) (fun c20 => ?_) (fun c20 => absurd c20 (by omega))
    refine g_aload_n (i := 0) (pc := 25) dX4_save_25 rfl rfl ?_
    refine g_getf (pc := 26) f_X4_7 dX4_save_26 (c_79) rfl ?_
    refine g_iconst (pc := 29) dX4_save_29 ?_
    refine g_aload_n (i := 0) (pc := 30) dX4_save_30 rfl rfl ?_
    refine g_getf (pc := 31) f_X4_22 dX4_save_31 (c_79) rfl ?_
    refine g_bipush (pc := 34) dX4_save_34 (by decide) ?_
    refine g_iload_n (i := 1) (pc := 36) dX4_save_36 rfl rfl ?_
    refine g_imul (pc := 37) dX4_save_37 ?_
    refine G.eqS (congrArg (fun z => vI z) (show _ = ((121 * x.toNat : Nat) : Int) by omega)) ?_
    refine g_s4 (pc := 38) okS_X4_copy rfl l_X4_172 dX4_save_38 (by decide) (by decide) (Nat.le_of_ble_eq_true rfl) (t_X4_copy (f := 0) (t := 121 * x.toNat) c_80 c_84 (by decide) ⟨by omega, by omega⟩ ⟨by omega, by omega⟩) (List.length_set ..) ?_
    refine G.eqw (w' := cW κ (dE (n_setsl (n_setth (ν) (0)) (va_up (n_sl ν) x.toNat (n_st ν)))) o) (by exact (congrArg (fun z => (cW κ (dE (n_setth (ν) (0))) o).set 84 (cArr 0 242 z)) (cp_sh (m := 242) (i := x.toNat) (f := n_sl ν) (σ := n_st ν) (by omega))).trans v_sl) ?_
    refine g_aload_n (i := 0) (pc := 41) dX4_save_41 rfl rfl ?_
    refine g_getf (pc := 42) f_X4_25 dX4_save_42 (c_79) rfl ?_
    refine g_iload_n (i := 1) (pc := 45) dX4_save_45 rfl rfl ?_
    refine g_iconst (pc := 46) dX4_save_46 ?_
    refine g_iast (pc := 47) dX4_save_47 (c_85) (by omega) ?_
    refine G.eqw v_sv ?_
    refine g_aload_n (i := 0) (pc := 48) dX4_save_48 rfl rfl ?_
    refine g_v0 (pc := 49) okV_X4_freeFrames rfl l_X4_103 dX4_save_49 (c_79) hc_4 (by decide) (by decide) (Nat.le_of_ble_eq_true rfl) (t_X4_freeFrames (ν := n_setsv (n_setsl (n_setth (ν) (0)) (va_up (n_sl ν) x.toNat (n_st ν))) (va_up (n_sv (n_setsl (n_setth (ν) (0)) (va_up (n_sl ν) x.toNat (n_st ν)))) (x).toNat (1))) hi) rfl ?_
    simp only [Option.toList, List.cons_append, List.nil_append]
    refine G.eqS (v' := vI (nff (n_st ν))) rfl ?_
    have bb := nff_rng (n_st ν)
    refine g_iret (pc := 52) rfl dX4_save_52 (fun h => h) ?_
    exact df_0 (by unfold xc_sv; rw [if_pos (by omega)]) (rfl) (nw rfl)
set_option maxRecDepth 20000 in
set_option maxHeartbeats 300000 in
theorem t_X4_restore {κ : KT} {ν : NT} {o : Nat → Int} {al : Bool} (hN : NInv ν) {x : Int} (h_x : -2147483648 ≤ x ∧ x < 2147483648) : GM M_X4_restore al [vR 79, vI x] (cW κ (dE ν) o) 0 0 (dt (some (vI (nV (xn_rs ν x) (nff (n_sl ν x.toNat))))) (cW κ (dE (nR ν (xn_rs ν x) (n_setre (n_setst ν (n_sl ν x.toNat)) 0))) o)) := by
  show G _ none _ _ 0 [some (vR 79), some (vI x)] [] _ _ _ _
  have hi := hN.1
  have hr := hN.2.1
  refine g_aload_n (i := 0) (pc := 0) dX4_restore_0 rfl rfl ?_
  refine g_iload_n (i := 1) (pc := 1) dX4_restore_1 rfl rfl ?_
  refine g_s1x (pc := 2) okS_X4_isSlot rfl l_X4_233 dX4_restore_2 (by decide) (by decide) (Nat.le_of_ble_eq_true rfl) (t_X4_isSlot (by omega)) rfl ?_
  simp only [Option.toList, List.cons_append, List.nil_append]
  have bb := b2_rng (decide (0 ≤ x ∧ x < 2))
  have b1 := b2_dec (p := 0 ≤ x ∧ x < 2)
  refine g_z_ne (tgt := 12) (pc := 5) dX4_restore_5 (by omega) (by decide) (fun c5 => ?_) (fun c5 => ?_)
  · skip
    refine g_aload_n (i := 0) (pc := 12) dX4_restore_12 rfl rfl ?_
    refine g_getf (pc := 13) f_X4_25 dX4_restore_13 (c_79) rfl ?_
    refine g_iload_n (i := 1) (pc := 16) dX4_restore_16 rfl rfl ?_
    refine g_iald (pc := 17) dX4_restore_17 (c_85) (by omega) ?_
    refine G.eqS (congrArg (fun z => vI z) (show _ = n_sv ν x.toNat from rfl)) ?_
    have z9 := hN.2.2.2.1 x.toNat
    refine g_iconst (pc := 18) dX4_restore_18 ?_
    refine g_c_ne (tgt := 26) (pc := 19) dX4_restore_19 (by omega) (by decide) (fun c19 => ?_) (fun c19 => ?_)
    · skip
      refine g_iconst (pc := 26) dX4_restore_26 ?_
      refine g_put (pc := 27) ft_X4_34 dX4_restore_27 (c_79) (Nat.le_of_ble_eq_true rfl) (fun _ => rfl) (fun _ => rfl) (fun h => nomatch h) ?_
      refine G.eqw v_th ?_
      refine g_aload_n (i := 0) (pc := 30) dX4_restore_30 rfl rfl ?_
      refine g_getf (pc := 31) f_X4_34 dX4_restore_31 (c_79) rfl ?_
      refine G.eqS (v' := vI (2)) rfl ?_
      refine g_z_le (tgt := 39) (pc := 34) dX4_restore_34 (by omega) (by decide) (fun c34 => absurd c34 (by omega)) (fun c34 => ?_)
      refine g_iconst (pc := 37) dX4_restore_37 ?_
      refine g_iret (pc := 38) rfl dX4_restore_38 (fun h => h) ?_
      exact df_1 (k := 2) (by unfold xn_rs; rw [if_pos (by omega), if_pos (by omega)]) (by decide) (nw rfl)
    · skip
      refine g_iconst (pc := 22) dX4_restore_22 ?_
      refine g_goto (tgt := 27) (pc := 23) dX4_restore_23 (by decide) ?_
      refine g_put (pc := 27) ft_X4_34 dX4_restore_27 (c_79) (Nat.le_of_ble_eq_true rfl) (fun _ => rfl) (fun _ => rfl) (fun h => nomatch h) ?_
      refine G.eqw v_th ?_
      refine g_aload_n (i := 0) (pc := 30) dX4_restore_30 rfl rfl ?_
      refine g_getf (pc := 31) f_X4_34 dX4_restore_31 (c_79) rfl ?_
      refine G.eqS (v' := vI (0)) rfl ?_
      refine g_z_le (tgt := 39) (pc := 34) dX4_restore_34 (by omega) (by decide) (fun c34 => ?_) (fun c34 => absurd c34 (by omega))
      have hi0 := hi
      have hi := hN.2.2.2.2.1 x.toNat (by omega)
      refine g_aload_n (i := 0) (pc := 39) dX4_restore_39 rfl rfl ?_
      refine g_getf (pc := 40) f_X4_22 dX4_restore_40 (c_79) rfl ?_
      refine g_bipush (pc := 43) dX4_restore_43 (by decide) ?_
      refine g_iload_n (i := 1) (pc := 45) dX4_restore_45 rfl rfl ?_
      refine g_imul (pc := 46) dX4_restore_46 ?_
      refine G.eqS (congrArg (fun z => vI z) (show _ = ((121 * x.toNat : Nat) : Int) by omega)) ?_
      refine g_aload_n (i := 0) (pc := 47) dX4_restore_47 rfl rfl ?_
      refine g_getf (pc := 48) f_X4_7 dX4_restore_48 (c_79) rfl ?_
      refine g_iconst (pc := 51) dX4_restore_51 ?_
      refine g_s4 (pc := 52) okS_X4_copy rfl l_X4_172 dX4_restore_52 (by decide) (by decide) (Nat.le_of_ble_eq_true rfl) (t_X4_copy (f := 121 * x.toNat) (t := 0) c_84 c_80 (by decide) ⟨by omega, by omega⟩ ⟨by omega, by omega⟩) (List.length_set ..) ?_
      refine G.eqw (w' := cW κ (dE (n_setst (n_setth (ν) (0)) (n_sl ν x.toNat))) o) (by exact (congrArg (fun z => (cW κ (dE (n_setth (ν) (0))) o).set 80 (cArr 0 121 z)) (cp_hs (m := 242) (i := x.toNat) (f := n_sl ν) (σ := n_st ν) (by omega))).trans v_st) ?_
      refine g_aload_n (i := 0) (pc := 55) dX4_restore_55 rfl rfl ?_
      refine g_iconst (pc := 56) dX4_restore_56 ?_
      refine g_put (pc := 57) ft_X4_154 dX4_restore_57 (c_79) (Nat.le_of_ble_eq_true rfl) (fun _ => rfl) (fun _ => rfl) (fun h => nomatch h) ?_
      refine G.eqw v_re ?_
      refine g_aload_n (i := 0) (pc := 60) dX4_restore_60 rfl rfl ?_
      refine g_v0 (pc := 61) okV_X4_freeFrames rfl l_X4_103 dX4_restore_61 (c_79) hc_4 (by decide) (by decide) (Nat.le_of_ble_eq_true rfl) (t_X4_freeFrames (ν := n_setre (n_setst (n_setth (ν) (0)) (n_sl ν x.toNat)) (0)) hi) rfl ?_
      simp only [Option.toList, List.cons_append, List.nil_append]
      refine G.eqS (v' := vI (nff (n_sl ν x.toNat))) rfl ?_
      have bb := nff_rng (n_sl ν x.toNat)
      refine g_iret (pc := 64) rfl dX4_restore_64 (fun h => h) ?_
      exact df_0 (by unfold xn_rs; rw [if_pos (by omega), if_neg (by omega)]) (rfl) (nw rfl)
  · skip
    refine g_iconst (pc := 8) dX4_restore_8 ?_
    refine g_goto (tgt := 27) (pc := 9) dX4_restore_9 (by decide) ?_
    refine g_put (pc := 27) ft_X4_34 dX4_restore_27 (c_79) (Nat.le_of_ble_eq_true rfl) (fun _ => rfl) (fun _ => rfl) (fun h => nomatch h) ?_
    refine G.eqw v_th ?_
    refine g_aload_n (i := 0) (pc := 30) dX4_restore_30 rfl rfl ?_
    refine g_getf (pc := 31) f_X4_34 dX4_restore_31 (c_79) rfl ?_
    refine G.eqS (v' := vI (1)) rfl ?_
    refine g_z_le (tgt := 39) (pc := 34) dX4_restore_34 (by omega) (by decide) (fun c34 => absurd c34 (by omega)) (fun c34 => ?_)
    refine g_iconst (pc := 37) dX4_restore_37 ?_
    refine g_iret (pc := 38) rfl dX4_restore_38 (fun h => h) ?_
    exact df_1 (k := 1) (by unfold xn_rs; rw [if_neg (by omega)]) (by decide) (nw rfl)
set_option maxRecDepth 20000 in
set_option maxHeartbeats 300000 in
theorem t_X4_undo {κ : KT} {ν : NT} {o : Nat → Int} {al : Bool} (hN : NInv ν) : GM M_X4_undo al [vR 79] (cW κ (dE ν) o) 0 0 (dt (some (vI (nV (xn_un ν) (n_re ν - 1)))) (cW κ (dE (nR ν (xn_un ν) (n_setst (n_setre ν (n_re ν - 1)) (n_hi ν (n_re ν - 1).toNat)))) o)) := by
  show G _ none _ _ 0 [some (vR 79)] [] _ _ _ _
  have hi := hN.1
  have hr := hN.2.1
  refine g_aload_n (i := 0) (pc := 0) dX4_undo_0 rfl rfl ?_
  refine g_aload_n (i := 0) (pc := 1) dX4_undo_1 rfl rfl ?_
  refine g_getf (pc := 2) f_X4_154 dX4_undo_2 (c_79) rfl ?_
  refine G.eqS (v' := vI ((n_re ν))) rfl ?_
  refine g_z_le (tgt := 12) (pc := 5) dX4_undo_5 (by omega) (by decide) (fun c5 => ?_) (fun c5 => ?_)
  · skip
    refine g_iconst (pc := 12) dX4_undo_12 ?_
    refine g_put (pc := 13) ft_X4_34 dX4_undo_13 (c_79) (Nat.le_of_ble_eq_true rfl) (fun _ => rfl) (fun _ => rfl) (fun h => nomatch h) ?_
    refine G.eqw v_th ?_
    refine g_aload_n (i := 0) (pc := 16) dX4_undo_16 rfl rfl ?_
    refine g_getf (pc := 17) f_X4_34 dX4_undo_17 (c_79) rfl ?_
    refine G.eqS (v' := vI (1)) rfl ?_
    refine g_z_le (tgt := 25) (pc := 20) dX4_undo_20 (by omega) (by decide) (fun c20 => absurd c20 (by omega)) (fun c20 => ?_)
    refine g_iconst (pc := 23) dX4_undo_23 ?_
    refine g_iret (pc := 24) rfl dX4_undo_24 (fun h => h) ?_
    exact df_1 (k := 1) (by unfold xn_un; rw [if_pos (by omega)]) (by decide) (nw rfl)
  · skip
    refine g_iconst (pc := 8) dX4_undo_8 ?_
    refine g_goto (tgt := 13) (pc := 9) dX4_undo_9 (by decide) ?_
    refine g_put (pc := 13) ft_X4_34 dX4_undo_13 (c_79) (Nat.le_of_ble_eq_true rfl) (fun _ => rfl) (fun _ => rfl) (fun h => nomatch h) ?_
    refine G.eqw v_th ?_
    refine g_aload_n (i := 0) (pc := 16) dX4_undo_16 rfl rfl ?_
    refine g_getf (pc := 17) f_X4_34 dX4_undo_17 (c_79) rfl ?_
    refine G.eqS (v' := vI (0)) rfl ?_
    refine g_z_le (tgt := 25) (pc := 20) dX4_undo_20 (by omega) (by decide) (fun c20 => ?_) (fun c20 => absurd c20 (by omega))
    refine g_aload_n (i := 0) (pc := 25) dX4_undo_25 rfl rfl ?_
    refine g_dup (pc := 26) dX4_undo_26 (fun z h => nomatch h) ?_
    refine g_getf (pc := 27) f_X4_154 dX4_undo_27 (c_79) rfl ?_
    refine G.eqS (v' := vI ((n_re ν))) rfl ?_
    refine g_iconst (pc := 30) dX4_undo_30 ?_
    refine g_isub (pc := 31) dX4_undo_31 ?_
    refine g_put (pc := 32) ft_X4_154 dX4_undo_32 (c_79) (Nat.le_of_ble_eq_true rfl) (fun _ => rfl) (fun _ => rfl) (fun h => nomatch h) ?_
    refine G.eqw v_re ?_
    refine g_aload_n (i := 0) (pc := 35) dX4_undo_35 rfl rfl ?_
    refine g_getf (pc := 36) f_X4_19 dX4_undo_36 (c_79) rfl ?_
    refine g_aload_n (i := 0) (pc := 39) dX4_undo_39 rfl rfl ?_
    refine g_getf (pc := 40) f_X4_154 dX4_undo_40 (c_79) rfl ?_
    refine G.eqS (v' := vI ((((n_re ν) - 1)))) rfl ?_
    refine g_bipush (pc := 43) dX4_undo_43 (by decide) ?_
    refine g_imul (pc := 45) dX4_undo_45 ?_
    refine G.eqS (congrArg (fun z => vI z) (show _ = ((121 * ((((n_re ν) - 1))).toNat : Nat) : Int) by omega)) ?_
    refine g_aload_n (i := 0) (pc := 46) dX4_undo_46 rfl rfl ?_
    refine g_getf (pc := 47) f_X4_7 dX4_undo_47 (c_79) rfl ?_
    refine g_iconst (pc := 50) dX4_undo_50 ?_
    refine g_s4 (pc := 51) okS_X4_copy rfl l_X4_172 dX4_undo_51 (by decide) (by decide) (Nat.le_of_ble_eq_true rfl) (t_X4_copy (f := 121 * ((((n_re ν) - 1))).toNat) (t := 0) c_83 c_80 (by decide) ⟨by omega, by omega⟩ ⟨by omega, by omega⟩) (List.length_set ..) ?_
    refine G.eqw (w' := cW κ (dE (n_setst (n_setre (n_setth (ν) (0)) (((n_re ν) - 1))) (n_hi ν ((((n_re ν) - 1))).toNat))) o) (by exact (congrArg (fun z => (cW κ (dE (n_setre (n_setth (ν) (0)) (((n_re ν) - 1)))) o).set 80 (cArr 0 121 z)) (cp_hs (m := 1694) (i := ((((n_re ν) - 1))).toNat) (f := n_hi ν) (σ := n_st ν) (by omega))).trans v_st) ?_
    refine g_aload_n (i := 0) (pc := 54) dX4_undo_54 rfl rfl ?_
    refine g_getf (pc := 55) f_X4_154 dX4_undo_55 (c_79) rfl ?_
    refine G.eqS (v' := vI ((((n_re ν) - 1)))) rfl ?_
    refine g_iret (pc := 58) rfl dX4_undo_58 (fun h => h) ?_
    exact df_0 (by unfold xn_un; rw [if_neg (by omega)]) (rfl) (nw rfl)
set_option maxRecDepth 20000 in
set_option maxHeartbeats 300000 in
theorem t_X4_write {κ : KT} {ν : NT} {o : Nat → Int} {al : Bool} (hN : NInv ν) {p v x : Int} (h_p : -2147483648 ≤ p ∧ p < 2147483648) (h_v : -2147483648 ≤ v ∧ v < 2147483648) (h_x : -2147483648 ≤ x ∧ x < 2147483648) : GM M_X4_write al [vR 79, vI p, vI v, vI x] (cW κ (dE ν) o) 0 0 (dt (some (vI (nV (xc_wr (n_st ν) p v x) (oc (n_st ν) p v)))) (cW κ (dE (nR ν (xc_wr (n_st ν) p v x) (n_setst (n_rem ν) (s_wri (n_st ν) p v x)))) o)) := by
  show G _ none _ _ 0 [some (vR 79), some (vI p), some (vI v), some (vI x)] [] _ _ _ _
  have hi := hN.1
  have hr := hN.2.1
  refine g_aload_n (i := 0) (pc := 0) dX4_write_0 rfl rfl ?_
  refine g_aload_n (i := 0) (pc := 1) dX4_write_1 rfl rfl ?_
  refine g_iload_n (i := 1) (pc := 2) dX4_write_2 rfl rfl ?_
  refine g_iload_n (i := 2) (pc := 3) dX4_write_3 rfl rfl ?_
  refine g_v2 (pc := 4) okV_X4_isPage rfl l_X4_166 dX4_write_4 (c_79) hc_4 (by decide) (by decide) (Nat.le_of_ble_eq_true rfl) (t_X4_isPage (ν := ν) hi (by omega) (by omega)) rfl ?_
  simp only [Option.toList, List.cons_append, List.nil_append]
  have bb := b2_rng (hasPg (n_st ν) (p) (v))
  refine g_z_ne (tgt := 14) (pc := 7) dX4_write_7 (by omega) (by decide) (fun c7 => ?_) (fun c7 => ?_)
  · skip
    have h_pg := b2_1.mp (show b2 (hasPg (n_st ν) p v) = 1 by omega)
    refine g_iload_n (i := 3) (pc := 14) dX4_write_14 rfl rfl ?_
    refine g_iconst (pc := 15) dX4_write_15 ?_
    refine g_bipush (pc := 16) dX4_write_16 (by decide) ?_
    refine g_s3 (pc := 18) okS_X4_within rfl l_X4_38 dX4_write_18 (by decide) (by decide) (Nat.le_of_ble_eq_true rfl) (t_X4_within (by omega) (by omega) (by omega)) rfl ?_
    simp only [Option.toList, List.cons_append, List.nil_append]
    have bb := b2_rng (decide (0 ≤ x ∧ x ≤ 99))
    have b1 := b2_dec (p := 0 ≤ x ∧ x ≤ 99)
    refine g_z_ne (tgt := 28) (pc := 21) dX4_write_21 (by omega) (by decide) (fun c21 => ?_) (fun c21 => ?_)
    · skip
      refine g_aload_n (i := 0) (pc := 28) dX4_write_28 rfl rfl ?_
      refine g_iload_n (i := 1) (pc := 29) dX4_write_29 rfl rfl ?_
      refine g_iload_n (i := 2) (pc := 30) dX4_write_30 rfl rfl ?_
      refine g_v2 (pc := 31) okV_X4_outcome rfl l_X4_90 dX4_write_31 (c_79) hc_4 (by decide) (by decide) (Nat.le_of_ble_eq_true rfl) (t_X4_outcome (ν := ν) hi (by first | assumption | exact h_pg)) rfl ?_
      simp only [Option.toList, List.cons_append, List.nil_append]
      have bb := oc_rng (n_st ν) (p) (v)
      refine g_iconst (pc := 34) dX4_write_34 ?_
      refine g_c_ne (tgt := 42) (pc := 35) dX4_write_35 (by omega) (by decide) (fun c35 => ?_) (fun c35 => ?_)
      · skip
        refine g_iconst (pc := 42) dX4_write_42 ?_
        refine g_put (pc := 43) ft_X4_34 dX4_write_43 (c_79) (Nat.le_of_ble_eq_true rfl) (fun _ => rfl) (fun _ => rfl) (fun h => nomatch h) ?_
        refine G.eqw v_th ?_
        refine g_aload_n (i := 0) (pc := 46) dX4_write_46 rfl rfl ?_
        refine g_getf (pc := 47) f_X4_34 dX4_write_47 (c_79) rfl ?_
        refine G.eqS (v' := vI (0)) rfl ?_
        refine g_z_le (tgt := 55) (pc := 50) dX4_write_50 (by omega) (by decide) (fun c50 => ?_) (fun c50 => absurd c50 (by omega))
        have h_x2 : 0 ≤ x ∧ x < 100 := by omega
        have h_o : oc (n_st ν) p v ≠ -1 := by omega
        refine g_aload_n (i := 0) (pc := 55) dX4_write_55 rfl rfl ?_
        refine g_v0 (pc := 56) okV_X4_remember rfl l_X4_176 dX4_write_56 (c_79) hc_4 (by decide) (by decide) (Nat.le_of_ble_eq_true rfl) (t_X4_remember (ν := n_setth (ν) (0)) hr) (by rw [c_len, c_len]) ?_
        simp only [Option.toList, List.cons_append, List.nil_append]
        refine g_aload_n (i := 0) (pc := 59) dX4_write_59 rfl rfl ?_
        refine g_iload_n (i := 1) (pc := 60) dX4_write_60 rfl rfl ?_
        refine g_iload_n (i := 2) (pc := 61) dX4_write_61 rfl rfl ?_
        refine g_iload_n (i := 3) (pc := 62) dX4_write_62 rfl rfl ?_
        refine g_v3 (pc := 63) okV_X4_written rfl l_X4_179 dX4_write_63 (c_79) hc_4 (by decide) (by decide) (Nat.le_of_ble_eq_true rfl) (t_X4_written (ν := n_rem (n_setth (ν) (0))) hi h_pg h_o h_x2) (by rw [c_len, c_len]) ?_
        simp only [Option.toList, List.cons_append, List.nil_append]
        refine G.eqS (v' := vI (oc (n_st ν) (p) (v))) rfl ?_
        have bb := oc_rng (n_st ν) (p) (v)
        refine g_iret (pc := 66) rfl dX4_write_66 (fun h => h) ?_
        exact df_0 (by unfold xc_wr; rw [if_pos (b2_1.mp (by omega)), if_neg (by omega), if_neg (by omega)]) (rfl) (nw rfl)
      · skip
        refine g_iconst (pc := 38) dX4_write_38 ?_
        refine g_goto (tgt := 43) (pc := 39) dX4_write_39 (by decide) ?_
        refine g_put (pc := 43) ft_X4_34 dX4_write_43 (c_79) (Nat.le_of_ble_eq_true rfl) (fun _ => rfl) (fun _ => rfl) (fun h => nomatch h) ?_
        refine G.eqw v_th ?_
        refine g_aload_n (i := 0) (pc := 46) dX4_write_46 rfl rfl ?_
        refine g_getf (pc := 47) f_X4_34 dX4_write_47 (c_79) rfl ?_
        refine G.eqS (v' := vI (3)) rfl ?_
        refine g_z_le (tgt := 55) (pc := 50) dX4_write_50 (by omega) (by decide) (fun c50 => absurd c50 (by omega)) (fun c50 => ?_)
        refine g_iconst (pc := 53) dX4_write_53 ?_
        refine g_iret (pc := 54) rfl dX4_write_54 (fun h => h) ?_
        exact df_1 (k := 3) (by unfold xc_wr; rw [if_pos (b2_1.mp (by omega)), if_neg (by omega), if_pos (by omega)]) (by decide) (nw rfl)
    · skip
      refine g_iconst (pc := 24) dX4_write_24 ?_
      refine g_goto (tgt := 43) (pc := 25) dX4_write_25 (by decide) ?_
      refine g_put (pc := 43) ft_X4_34 dX4_write_43 (c_79) (Nat.le_of_ble_eq_true rfl) (fun _ => rfl) (fun _ => rfl) (fun h => nomatch h) ?_
      refine G.eqw v_th ?_
      refine g_aload_n (i := 0) (pc := 46) dX4_write_46 rfl rfl ?_
      refine g_getf (pc := 47) f_X4_34 dX4_write_47 (c_79) rfl ?_
      refine G.eqS (v' := vI (2)) rfl ?_
      refine g_z_le (tgt := 55) (pc := 50) dX4_write_50 (by omega) (by decide) (fun c50 => absurd c50 (by omega)) (fun c50 => ?_)
      refine g_iconst (pc := 53) dX4_write_53 ?_
      refine g_iret (pc := 54) rfl dX4_write_54 (fun h => h) ?_
      exact df_1 (k := 2) (by unfold xc_wr; rw [if_pos (b2_1.mp (by omega)), if_pos (by omega)]) (by decide) (nw rfl)
  · skip
    refine g_iconst (pc := 10) dX4_write_10 ?_
    refine g_goto (tgt := 43) (pc := 11) dX4_write_11 (by decide) ?_
    refine g_put (pc := 43) ft_X4_34 dX4_write_43 (c_79) (Nat.le_of_ble_eq_true rfl) (fun _ => rfl) (fun _ => rfl) (fun h => nomatch h) ?_
    refine G.eqw v_th ?_
    refine g_aload_n (i := 0) (pc := 46) dX4_write_46 rfl rfl ?_
    refine g_getf (pc := 47) f_X4_34 dX4_write_47 (c_79) rfl ?_
    refine G.eqS (v' := vI (1)) rfl ?_
    refine g_z_le (tgt := 55) (pc := 50) dX4_write_50 (by omega) (by decide) (fun c50 => absurd c50 (by omega)) (fun c50 => ?_)
    refine g_iconst (pc := 53) dX4_write_53 ?_
    refine g_iret (pc := 54) rfl dX4_write_54 (fun h => h) ?_
    exact df_1 (k := 1) (by unfold xc_wr; rw [if_neg (b2_0.mp (by omega))]) (by decide) (nw rfl)
set_option maxRecDepth 20000 in
set_option maxHeartbeats 300000 in
theorem t_X4_fork {κ : KT} {ν : NT} {o : Nat → Int} {al : Bool} (hN : NInv ν) {p : Int} (h_p : -2147483648 ≤ p ∧ p < 2147483648) : GM M_X4_fork al [vR 79, vI p] (cW κ (dE ν) o) 0 0 (dt (some (vI (nV (xc_fk (n_st ν) p) (lup (n_st ν))))) (cW κ (dE (nR ν (xc_fk (n_st ν) p) (n_setst (n_rem ν) (s_for (n_st ν) p)))) o)) := by
  show G _ none _ _ 0 [some (vR 79), some (vI p)] [] _ _ _ _
  have hi := hN.1
  have hr := hN.2.1
  refine g_aload_n (i := 0) (pc := 0) dX4_fork_0 rfl rfl ?_
  refine g_aload_n (i := 0) (pc := 1) dX4_fork_1 rfl rfl ?_
  refine g_iload_n (i := 1) (pc := 2) dX4_fork_2 rfl rfl ?_
  refine g_v1 (pc := 3) okV_X4_whyNotForked rfl l_X4_183 dX4_fork_3 (c_79) hc_4 (by decide) (by decide) (Nat.le_of_ble_eq_true rfl) (t_X4_whyNotForked (ν := ν) hi (by omega)) rfl ?_
  simp only [Option.toList, List.cons_append, List.nil_append]
  have bb := xc_fk_rng (n_st ν) (p)
  refine g_put (pc := 6) ft_X4_34 dX4_fork_6 (c_79) (Nat.le_of_ble_eq_true rfl) (fun _ => rfl) (fun _ => rfl) (fun h => nomatch h) ?_
  refine G.eqw v_th ?_
  refine g_aload_n (i := 0) (pc := 9) dX4_fork_9 rfl rfl ?_
  refine g_getf (pc := 10) f_X4_34 dX4_fork_10 (c_79) rfl ?_
  refine G.eqS (v' := vI ((xc_fk (n_st ν) (p)))) rfl ?_
  refine g_z_le (tgt := 18) (pc := 13) dX4_fork_13 (by omega) (by decide) (fun c13 => ?_) (fun c13 => ?_)
  · skip
    have h_c : canF (n_st ν) p = true := xc_fk0.mp (by omega)
    refine g_aload_n (i := 0) (pc := 18) dX4_fork_18 rfl rfl ?_
    refine g_v0 (pc := 19) okV_X4_remember rfl l_X4_176 dX4_fork_19 (c_79) hc_4 (by decide) (by decide) (Nat.le_of_ble_eq_true rfl) (t_X4_remember (ν := n_setth (ν) ((xc_fk (n_st ν) (p)))) hr) (by rw [c_len, c_len]) ?_
    simp only [Option.toList, List.cons_append, List.nil_append]
    refine g_aload_n (i := 0) (pc := 22) dX4_fork_22 rfl rfl ?_
    refine g_iload_n (i := 1) (pc := 23) dX4_fork_23 rfl rfl ?_
    refine g_v1 (pc := 24) okV_X4_forked rfl l_X4_186 dX4_fork_24 (c_79) hc_4 (by decide) (by decide) (Nat.le_of_ble_eq_true rfl) (t_X4_forked (ν := n_rem (n_setth (ν) ((xc_fk (n_st ν) (p))))) hi h_c) (by rw [c_len, c_len]) ?_
    simp only [Option.toList, List.cons_append, List.nil_append]
    refine G.eqS (v' := vI (lup (n_st ν))) rfl ?_
    have bb := lup_rng (n_st ν)
    refine g_iret (pc := 27) rfl dX4_fork_27 (fun h => h) ?_
    have h_0 : xc_fk (n_st ν) p = 0 := by omega
    exact df_0 h_0 rfl (nw (by rw [← h_0]; rfl))
  · skip
    refine g_iconst (pc := 16) dX4_fork_16 ?_
    refine g_iret (pc := 17) rfl dX4_fork_17 (fun h => h) ?_
    exact df_1 (k := xc_fk (n_st ν) p) rfl (by omega) (nw rfl)
set_option maxRecDepth 20000 in
set_option maxHeartbeats 300000 in
theorem t_X4_exit {κ : KT} {ν : NT} {o : Nat → Int} {al : Bool} (hN : NInv ν) {p : Int} (h_p : -2147483648 ≤ p ∧ p < 2147483648) : GM M_X4_exit al [vR 79, vI p] (cW κ (dE ν) o) 0 0 (dt (some (vI (nV (xc_ex (n_st ν) p) (nff (s_le (n_st ν) p 16) - nff (n_st ν))))) (cW κ (dE (nR ν (xc_ex (n_st ν) p) (n_setst (n_rem ν) (s_end (n_st ν) p)))) o)) := by
  show G _ none _ _ 0 [some (vR 79), some (vI p)] [] _ _ _ _
  have hi := hN.1
  have hr := hN.2.1
  refine g_aload_n (i := 0) (pc := 0) dX4_exit_0 rfl rfl ?_
  refine g_aload_n (i := 0) (pc := 1) dX4_exit_1 rfl rfl ?_
  refine g_iload_n (i := 1) (pc := 2) dX4_exit_2 rfl rfl ?_
  refine g_v1 (pc := 3) okV_X4_whyNotEnded rfl l_X4_189 dX4_exit_3 (c_79) hc_4 (by decide) (by decide) (Nat.le_of_ble_eq_true rfl) (t_X4_whyNotEnded (ν := ν) hi (by omega)) rfl ?_
  simp only [Option.toList, List.cons_append, List.nil_append]
  have bb := xc_ex_rng (n_st ν) (p)
  refine g_put (pc := 6) ft_X4_34 dX4_exit_6 (c_79) (Nat.le_of_ble_eq_true rfl) (fun _ => rfl) (fun _ => rfl) (fun h => nomatch h) ?_
  refine G.eqw v_th ?_
  refine g_aload_n (i := 0) (pc := 9) dX4_exit_9 rfl rfl ?_
  refine g_getf (pc := 10) f_X4_34 dX4_exit_10 (c_79) rfl ?_
  refine G.eqS (v' := vI ((xc_ex (n_st ν) (p)))) rfl ?_
  refine g_z_le (tgt := 18) (pc := 13) dX4_exit_13 (by omega) (by decide) (fun c13 => ?_) (fun c13 => ?_)
  · skip
    have h_c : canE (n_st ν) p = true := xc_ex0.mp (by omega)
    refine g_aload_n (i := 0) (pc := 18) dX4_exit_18 rfl rfl ?_
    refine g_v0 (pc := 19) okV_X4_remember rfl l_X4_176 dX4_exit_19 (c_79) hc_4 (by decide) (by decide) (Nat.le_of_ble_eq_true rfl) (t_X4_remember (ν := n_setth (ν) ((xc_ex (n_st ν) (p)))) hr) (by rw [c_len, c_len]) ?_
    simp only [Option.toList, List.cons_append, List.nil_append]
    refine g_aload_n (i := 0) (pc := 22) dX4_exit_22 rfl rfl ?_
    refine g_iload_n (i := 1) (pc := 23) dX4_exit_23 rfl rfl ?_
    refine g_v1 (pc := 24) okV_X4_ended rfl l_X4_192 dX4_exit_24 (c_79) hc_4 (by decide) (by decide) (Nat.le_of_ble_eq_true rfl) (t_X4_ended (ν := n_rem (n_setth (ν) ((xc_ex (n_st ν) (p))))) hi (canE_p h_c)) (by rw [c_len, c_len]) ?_
    simp only [Option.toList, List.cons_append, List.nil_append]
    refine G.eqS (v' := vI (nff (s_le (n_st ν) (p) 16) - nff (n_st ν))) rfl ?_
    refine g_iret (pc := 27) rfl dX4_exit_27 (fun h => h) ?_
    have h_0 : xc_ex (n_st ν) p = 0 := by omega
    exact df_0 h_0 rfl (nw (by rw [← h_0]; rfl))
  · skip
    refine g_iconst (pc := 16) dX4_exit_16 ?_
    refine g_iret (pc := 17) rfl dX4_exit_17 (fun h => h) ?_
    exact df_1 (k := xc_ex (n_st ν) p) rfl (by omega) (nw rfl)
set_option maxRecDepth 20000 in
set_option maxHeartbeats 300000 in
theorem t_X4_marry {κ : KT} {ν : NT} {o : Nat → Int} {al : Bool} (hN : NInv ν) {p g : Int} (h_p : -2147483648 ≤ p ∧ p < 2147483648) (h_g : -2147483648 ≤ g ∧ g < 2147483648) : GM M_X4_marry al [vR 79, vI p, vI g] (cW κ (dE ν) o) 0 0 (dt (some (vI (nV (xc_ma (n_st ν) p g) (if ip (n_st ν) p g = true then 0 else 4)))) (cW κ (dE (nR ν (xc_ma (n_st ν) p g) (n_setst (n_rem ν) (s_mar (n_st ν) p g)))) o)) := by
  show G _ none _ _ 0 [some (vR 79), some (vI p), some (vI g)] [] _ _ _ _
  have hi := hN.1
  have hr := hN.2.1
  refine g_aload_n (i := 0) (pc := 0) dX4_marry_0 rfl rfl ?_
  refine g_aload_n (i := 0) (pc := 1) dX4_marry_1 rfl rfl ?_
  refine g_iload_n (i := 1) (pc := 2) dX4_marry_2 rfl rfl ?_
  refine g_iload_n (i := 2) (pc := 3) dX4_marry_3 rfl rfl ?_
  refine g_v2 (pc := 4) okV_X4_isGroup rfl l_X4_169 dX4_marry_4 (c_79) hc_4 (by decide) (by decide) (Nat.le_of_ble_eq_true rfl) (t_X4_isGroup (ν := ν) hi (by omega) (by omega)) rfl ?_
  simp only [Option.toList, List.cons_append, List.nil_append]
  have bb := b2_rng (hasGr (n_st ν) (p) (g))
  refine g_z_ne (tgt := 14) (pc := 7) dX4_marry_7 (by omega) (by decide) (fun c7 => ?_) (fun c7 => ?_)
  · skip
    have h_gr := b2_1.mp (show b2 (hasGr (n_st ν) p g) = 1 by omega)
    obtain ⟨⟨h_p1, h_p2, h_e⟩, h_g1, h_g2⟩ := ex_gr h_gr
    refine g_aload_n (i := 0) (pc := 14) dX4_marry_14 rfl rfl ?_
    refine g_iload_n (i := 1) (pc := 15) dX4_marry_15 rfl rfl ?_
    refine g_iload_n (i := 2) (pc := 16) dX4_marry_16 rfl rfl ?_
    refine g_v2 (pc := 17) okV_X4_whyNoMarriage rfl l_X4_195 dX4_marry_17 (c_79) hc_4 (by decide) (by decide) (Nat.le_of_ble_eq_true rfl) (t_X4_whyNoMarriage (ν := ν) hi (by omega) (by omega)) rfl ?_
    simp only [Option.toList, List.cons_append, List.nil_append]
    have bb := wn_rng (n_st ν) (p) (g)
    refine g_z_le (tgt := 27) (pc := 20) dX4_marry_20 (by omega) (by decide) (fun c20 => ?_) (fun c20 => ?_)
    · skip
      refine g_iconst (pc := 27) dX4_marry_27 ?_
      refine g_put (pc := 28) ft_X4_34 dX4_marry_28 (c_79) (Nat.le_of_ble_eq_true rfl) (fun _ => rfl) (fun _ => rfl) (fun h => nomatch h) ?_
      refine G.eqw v_th ?_
      refine g_aload_n (i := 0) (pc := 31) dX4_marry_31 rfl rfl ?_
      refine g_getf (pc := 32) f_X4_34 dX4_marry_32 (c_79) rfl ?_
      refine G.eqS (v' := vI (0)) rfl ?_
      refine g_z_le (tgt := 40) (pc := 35) dX4_marry_35 (by omega) (by decide) (fun c35 => ?_) (fun c35 => absurd c35 (by omega))
      have h_w : wn (n_st ν) p g = 0 := by omega
      refine g_aload_n (i := 0) (pc := 40) dX4_marry_40 rfl rfl ?_
      refine g_v0 (pc := 41) okV_X4_remember rfl l_X4_176 dX4_marry_41 (c_79) hc_4 (by decide) (by decide) (Nat.le_of_ble_eq_true rfl) (t_X4_remember (ν := n_setth (ν) (0)) hr) (by rw [c_len, c_len]) ?_
      simp only [Option.toList, List.cons_append, List.nil_append]
      refine g_aload_n (i := 0) (pc := 44) dX4_marry_44 rfl rfl ?_
      refine g_iload_n (i := 1) (pc := 45) dX4_marry_45 rfl rfl ?_
      refine g_iload_n (i := 2) (pc := 46) dX4_marry_46 rfl rfl ?_
      refine g_v2 (pc := 47) okV_X4_married rfl l_X4_198 dX4_marry_47 (c_79) hc_4 (by decide) (by decide) (Nat.le_of_ble_eq_true rfl) (t_X4_married (ν := n_rem (n_setth (ν) (0))) hi h_gr h_w) (by rw [c_len, c_len]) ?_
      simp only [Option.toList, List.cons_append, List.nil_append]
      refine G.eqS (v' := vI (if ip (n_st ν) (p) (g) = true then 0 else 4)) rfl ?_
      refine g_iret (pc := 50) rfl dX4_marry_50 (fun h => h) ?_
      exact df_0 (by unfold xc_ma; rw [if_pos (b2_1.mp (by omega)), if_pos (by omega)]) (rfl) (nw rfl)
    · skip
      refine g_iconst (pc := 23) dX4_marry_23 ?_
      refine g_goto (tgt := 28) (pc := 24) dX4_marry_24 (by decide) ?_
      refine g_put (pc := 28) ft_X4_34 dX4_marry_28 (c_79) (Nat.le_of_ble_eq_true rfl) (fun _ => rfl) (fun _ => rfl) (fun h => nomatch h) ?_
      refine G.eqw v_th ?_
      refine g_aload_n (i := 0) (pc := 31) dX4_marry_31 rfl rfl ?_
      refine g_getf (pc := 32) f_X4_34 dX4_marry_32 (c_79) rfl ?_
      refine G.eqS (v' := vI (2)) rfl ?_
      refine g_z_le (tgt := 40) (pc := 35) dX4_marry_35 (by omega) (by decide) (fun c35 => absurd c35 (by omega)) (fun c35 => ?_)
      refine g_iconst (pc := 38) dX4_marry_38 ?_
      refine g_iret (pc := 39) rfl dX4_marry_39 (fun h => h) ?_
      exact df_1 (k := 2) (by unfold xc_ma; rw [if_pos (b2_1.mp (by omega)), if_neg (by omega)]) (by decide) (nw rfl)
  · skip
    refine g_iconst (pc := 10) dX4_marry_10 ?_
    refine g_goto (tgt := 28) (pc := 11) dX4_marry_11 (by decide) ?_
    refine g_put (pc := 28) ft_X4_34 dX4_marry_28 (c_79) (Nat.le_of_ble_eq_true rfl) (fun _ => rfl) (fun _ => rfl) (fun h => nomatch h) ?_
    refine G.eqw v_th ?_
    refine g_aload_n (i := 0) (pc := 31) dX4_marry_31 rfl rfl ?_
    refine g_getf (pc := 32) f_X4_34 dX4_marry_32 (c_79) rfl ?_
    refine G.eqS (v' := vI (1)) rfl ?_
    refine g_z_le (tgt := 40) (pc := 35) dX4_marry_35 (by omega) (by decide) (fun c35 => absurd c35 (by omega)) (fun c35 => ?_)
    refine g_iconst (pc := 38) dX4_marry_38 ?_
    refine g_iret (pc := 39) rfl dX4_marry_39 (fun h => h) ?_
    exact df_1 (k := 1) (by unfold xc_ma; rw [if_neg (b2_0.mp (by omega))]) (by decide) (nw rfl)
set_option maxRecDepth 20000 in
set_option maxHeartbeats 300000 in
theorem t_X4_tear {κ : KT} {ν : NT} {o : Nat → Int} {al : Bool} (hN : NInv ν) {p g : Int} (h_p : -2147483648 ≤ p ∧ p < 2147483648) (h_g : -2147483648 ≤ g ∧ g < 2147483648) : GM M_X4_tear al [vR 79, vI p, vI g] (cW κ (dE ν) o) 0 0 (dt (some (vI (nV (xc_te (n_st ν) p g) (ro (n_st ν) p g)))) (cW κ (dE (nR ν (xc_te (n_st ν) p g) (n_setst (n_rem ν) (s_torn (n_st ν) p g)))) o)) := by
  show G _ none _ _ 0 [some (vR 79), some (vI p), some (vI g)] [] _ _ _ _
  have hi := hN.1
  have hr := hN.2.1
  refine g_aload_n (i := 0) (pc := 0) dX4_tear_0 rfl rfl ?_
  refine g_aload_n (i := 0) (pc := 1) dX4_tear_1 rfl rfl ?_
  refine g_iload_n (i := 1) (pc := 2) dX4_tear_2 rfl rfl ?_
  refine g_iload_n (i := 2) (pc := 3) dX4_tear_3 rfl rfl ?_
  refine g_v2 (pc := 4) okV_X4_isGroup rfl l_X4_169 dX4_tear_4 (c_79) hc_4 (by decide) (by decide) (Nat.le_of_ble_eq_true rfl) (t_X4_isGroup (ν := ν) hi (by omega) (by omega)) rfl ?_
  simp only [Option.toList, List.cons_append, List.nil_append]
  have bb := b2_rng (hasGr (n_st ν) (p) (g))
  refine g_z_ne (tgt := 14) (pc := 7) dX4_tear_7 (by omega) (by decide) (fun c7 => ?_) (fun c7 => ?_)
  · skip
    have h_gr := b2_1.mp (show b2 (hasGr (n_st ν) p g) = 1 by omega)
    obtain ⟨⟨h_p1, h_p2, h_e⟩, h_g1, h_g2⟩ := ex_gr h_gr
    refine g_aload_n (i := 0) (pc := 14) dX4_tear_14 rfl rfl ?_
    refine g_iload_n (i := 1) (pc := 15) dX4_tear_15 rfl rfl ?_
    refine g_iload_n (i := 2) (pc := 16) dX4_tear_16 rfl rfl ?_
    refine g_v2 (pc := 17) okV_X4_isBig rfl l_X4_60 dX4_tear_17 (c_79) hc_4 (by decide) (by decide) (Nat.le_of_ble_eq_true rfl) (t_X4_isBig (ν := ν) hi (by omega) (by omega)) rfl ?_
    simp only [Option.toList, List.cons_append, List.nil_append]
    have bb := b2_rng (big (n_st ν) (p) (g))
    refine g_z_eq (tgt := 27) (pc := 20) dX4_tear_20 (by omega) (by decide) (fun c20 => ?_) (fun c20 => ?_)
    · skip
      refine g_iconst (pc := 27) dX4_tear_27 ?_
      refine g_put (pc := 28) ft_X4_34 dX4_tear_28 (c_79) (Nat.le_of_ble_eq_true rfl) (fun _ => rfl) (fun _ => rfl) (fun h => nomatch h) ?_
      refine G.eqw v_th ?_
      refine g_aload_n (i := 0) (pc := 31) dX4_tear_31 rfl rfl ?_
      refine g_getf (pc := 32) f_X4_34 dX4_tear_32 (c_79) rfl ?_
      refine G.eqS (v' := vI (2)) rfl ?_
      refine g_z_le (tgt := 40) (pc := 35) dX4_tear_35 (by omega) (by decide) (fun c35 => absurd c35 (by omega)) (fun c35 => ?_)
      refine g_iconst (pc := 38) dX4_tear_38 ?_
      refine g_iret (pc := 39) rfl dX4_tear_39 (fun h => h) ?_
      exact df_1 (k := 2) (by unfold xc_te; rw [if_pos (b2_1.mp (by omega)), if_neg (b2_0.mp (by omega))]) (by decide) (nw rfl)
    · skip
      refine g_iconst (pc := 23) dX4_tear_23 ?_
      refine g_goto (tgt := 28) (pc := 24) dX4_tear_24 (by decide) ?_
      refine g_put (pc := 28) ft_X4_34 dX4_tear_28 (c_79) (Nat.le_of_ble_eq_true rfl) (fun _ => rfl) (fun _ => rfl) (fun h => nomatch h) ?_
      refine G.eqw v_th ?_
      refine g_aload_n (i := 0) (pc := 31) dX4_tear_31 rfl rfl ?_
      refine g_getf (pc := 32) f_X4_34 dX4_tear_32 (c_79) rfl ?_
      refine G.eqS (v' := vI (0)) rfl ?_
      refine g_z_le (tgt := 40) (pc := 35) dX4_tear_35 (by omega) (by decide) (fun c35 => ?_) (fun c35 => absurd c35 (by omega))
      refine g_aload_n (i := 0) (pc := 40) dX4_tear_40 rfl rfl ?_
      refine g_v0 (pc := 41) okV_X4_remember rfl l_X4_176 dX4_tear_41 (c_79) hc_4 (by decide) (by decide) (Nat.le_of_ble_eq_true rfl) (t_X4_remember (ν := n_setth (ν) (0)) hr) (by rw [c_len, c_len]) ?_
      simp only [Option.toList, List.cons_append, List.nil_append]
      refine g_aload_n (i := 0) (pc := 44) dX4_tear_44 rfl rfl ?_
      refine g_iload_n (i := 1) (pc := 45) dX4_tear_45 rfl rfl ?_
      refine g_iload_n (i := 2) (pc := 46) dX4_tear_46 rfl rfl ?_
      refine g_v2 (pc := 47) okV_X4_torn rfl l_X4_121 dX4_tear_47 (c_79) hc_4 (by decide) (by decide) (Nat.le_of_ble_eq_true rfl) (t_X4_torn (ν := n_rem (n_setth (ν) (0))) hi (by omega) (by omega)) (by rw [c_len, c_len]) ?_
      simp only [Option.toList, List.cons_append, List.nil_append]
      refine G.eqS (v' := vI (ro (n_st ν) (p) (g))) rfl ?_
      have bb := ro_rng (σ := (n_st ν)) hi (p) (g)
      refine g_iret (pc := 50) rfl dX4_tear_50 (fun h => h) ?_
      exact df_0 (by unfold xc_te; rw [if_pos (b2_1.mp (by omega)), if_pos (b2_1.mp (by omega))]) (rfl) (nw rfl)
  · skip
    refine g_iconst (pc := 10) dX4_tear_10 ?_
    refine g_goto (tgt := 28) (pc := 11) dX4_tear_11 (by decide) ?_
    refine g_put (pc := 28) ft_X4_34 dX4_tear_28 (c_79) (Nat.le_of_ble_eq_true rfl) (fun _ => rfl) (fun _ => rfl) (fun h => nomatch h) ?_
    refine G.eqw v_th ?_
    refine g_aload_n (i := 0) (pc := 31) dX4_tear_31 rfl rfl ?_
    refine g_getf (pc := 32) f_X4_34 dX4_tear_32 (c_79) rfl ?_
    refine G.eqS (v' := vI (1)) rfl ?_
    refine g_z_le (tgt := 40) (pc := 35) dX4_tear_35 (by omega) (by decide) (fun c35 => absurd c35 (by omega)) (fun c35 => ?_)
    refine g_iconst (pc := 38) dX4_tear_38 ?_
    refine g_iret (pc := 39) rfl dX4_tear_39 (fun h => h) ?_
    exact df_1 (k := 1) (by unfold xc_te; rw [if_neg (b2_0.mp (by omega))]) (by decide) (nw rfl)
set_option maxRecDepth 20000 in
set_option maxHeartbeats 300000 in
theorem t_X4_press {κ : KT} {ν : NT} {o : Nat → Int} {al : Bool} (hN : NInv ν) {n : Int} (h_n : -2147483648 ≤ n ∧ n < 2147483648) : GM M_X4_press al [vR 79, vI n] (cW κ (dE ν) o) 0 0 (dt (some (vI (nV (xc_pr n) (nff (s_pre (n_st ν) n))))) (cW κ (dE (nR ν (xc_pr n) (n_setst (n_rem ν) (s_pre (n_st ν) n)))) o)) := by
  show G _ none _ _ 0 [some (vR 79), some (vI n)] [] _ _ _ _
  have hi := hN.1
  have hr := hN.2.1
  refine g_aload_n (i := 0) (pc := 0) dX4_press_0 rfl rfl ?_
  refine g_iload_n (i := 1) (pc := 1) dX4_press_1 rfl rfl ?_
  refine g_iconst (pc := 2) dX4_press_2 ?_
  refine g_bipush (pc := 3) dX4_press_3 (by decide) ?_
  refine g_s3 (pc := 5) okS_X4_within rfl l_X4_38 dX4_press_5 (by decide) (by decide) (Nat.le_of_ble_eq_true rfl) (t_X4_within (by omega) (by omega) (by omega)) rfl ?_
  simp only [Option.toList, List.cons_append, List.nil_append]
  have bb := b2_rng (decide (1 ≤ n ∧ n ≤ 32))
  have b1 := b2_dec (p := 1 ≤ n ∧ n ≤ 32)
  refine g_z_eq (tgt := 15) (pc := 8) dX4_press_8 (by omega) (by decide) (fun c8 => ?_) (fun c8 => ?_)
  · skip
    refine g_iconst (pc := 15) dX4_press_15 ?_
    refine g_put (pc := 16) ft_X4_34 dX4_press_16 (c_79) (Nat.le_of_ble_eq_true rfl) (fun _ => rfl) (fun _ => rfl) (fun h => nomatch h) ?_
    refine G.eqw v_th ?_
    refine g_aload_n (i := 0) (pc := 19) dX4_press_19 rfl rfl ?_
    refine g_getf (pc := 20) f_X4_34 dX4_press_20 (c_79) rfl ?_
    refine G.eqS (v' := vI (1)) rfl ?_
    refine g_z_le (tgt := 28) (pc := 23) dX4_press_23 (by omega) (by decide) (fun c23 => absurd c23 (by omega)) (fun c23 => ?_)
    refine g_iconst (pc := 26) dX4_press_26 ?_
    refine g_iret (pc := 27) rfl dX4_press_27 (fun h => h) ?_
    exact df_1 (k := 1) (by unfold xc_pr; rw [if_neg (by omega)]) (by decide) (nw rfl)
  · skip
    refine g_iconst (pc := 11) dX4_press_11 ?_
    refine g_goto (tgt := 16) (pc := 12) dX4_press_12 (by decide) ?_
    refine g_put (pc := 16) ft_X4_34 dX4_press_16 (c_79) (Nat.le_of_ble_eq_true rfl) (fun _ => rfl) (fun _ => rfl) (fun h => nomatch h) ?_
    refine G.eqw v_th ?_
    refine g_aload_n (i := 0) (pc := 19) dX4_press_19 rfl rfl ?_
    refine g_getf (pc := 20) f_X4_34 dX4_press_20 (c_79) rfl ?_
    refine G.eqS (v' := vI (0)) rfl ?_
    refine g_z_le (tgt := 28) (pc := 23) dX4_press_23 (by omega) (by decide) (fun c23 => ?_) (fun c23 => absurd c23 (by omega))
    refine g_aload_n (i := 0) (pc := 28) dX4_press_28 rfl rfl ?_
    refine g_v0 (pc := 29) okV_X4_remember rfl l_X4_176 dX4_press_29 (c_79) hc_4 (by decide) (by decide) (Nat.le_of_ble_eq_true rfl) (t_X4_remember (ν := n_setth (ν) (0)) hr) (by rw [c_len, c_len]) ?_
    simp only [Option.toList, List.cons_append, List.nil_append]
    refine g_aload_n (i := 0) (pc := 32) dX4_press_32 rfl rfl ?_
    refine g_iload_n (i := 1) (pc := 33) dX4_press_33 rfl rfl ?_
    refine g_v1 (pc := 34) okV_X4_pressed rfl l_X4_201 dX4_press_34 (c_79) hc_4 (by decide) (by decide) (Nat.le_of_ble_eq_true rfl) (t_X4_pressed (ν := n_rem (n_setth (ν) (0))) hi (by omega)) (by rw [c_len, c_len]) ?_
    simp only [Option.toList, List.cons_append, List.nil_append]
    refine G.eqS (v' := vI (nff (s_pre (n_st ν) (n)))) rfl ?_
    have bb := nff_rng (s_pre (n_st ν) (n))
    refine g_iret (pc := 37) rfl dX4_press_37 (fun h => h) ?_
    exact df_0 (by unfold xc_pr; rw [if_pos (by omega)]) (rfl) (nw rfl)
set_option maxRecDepth 20000 in
set_option maxHeartbeats 300000 in
theorem t_X4_setEager {κ : KT} {ν : NT} {o : Nat → Int} {al : Bool} (hN : NInv ν) {x : Int} (h_x : x = 0 ∨ x = 1) : GM M_X4_setEager al [vR 79, vI x] (cW κ (dE ν) o) 0 0 (dt (some (vI (nfr (n_st ν)))) (cW κ (dE (n_setth (n_setst (n_rem ν) (s_setea (n_st ν) x)) 0)) o)) := by
  show G _ none _ _ 0 [some (vR 79), some (vI x)] [] _ _ _ _
  have hi := hN.1
  have hr := hN.2.1
  refine g_aload_n (i := 0) (pc := 0) dX4_setEager_0 rfl rfl ?_
  refine g_iconst (pc := 1) dX4_setEager_1 ?_
  refine g_put (pc := 2) ft_X4_34 dX4_setEager_2 (c_79) (Nat.le_of_ble_eq_true rfl) (fun _ => rfl) (fun _ => rfl) (fun h => nomatch h) ?_
  refine G.eqw v_th ?_
  refine g_aload_n (i := 0) (pc := 5) dX4_setEager_5 rfl rfl ?_
  refine g_v0 (pc := 6) okV_X4_remember rfl l_X4_176 dX4_setEager_6 (c_79) hc_4 (by decide) (by decide) (Nat.le_of_ble_eq_true rfl) (t_X4_remember (ν := n_setth (ν) (0)) hr) (by rw [c_len, c_len]) ?_
  simp only [Option.toList, List.cons_append, List.nil_append]
  refine g_aload_n (i := 0) (pc := 9) dX4_setEager_9 rfl rfl ?_
  refine g_getf (pc := 10) f_X4_7 dX4_setEager_10 (c_79) rfl ?_
  refine g_bipush (pc := 13) dX4_setEager_13 (by decide) ?_
  refine g_iload_n (i := 1) (pc := 15) dX4_setEager_15 rfl rfl ?_
  refine g_z_eq (tgt := 23) (pc := 16) dX4_setEager_16 (by omega) (by decide) (fun c16 => ?_) (fun c16 => ?_)
  · skip
    refine g_iconst (pc := 23) dX4_setEager_23 ?_
    refine g_iast (pc := 24) dX4_setEager_24 c_80 (by decide) ?_
    refine G.eqw w4_ea ?_
    have hi0 := hi
    have hi := inv_ea (x := 0) hi (by decide)
    refine g_aload_n (i := 0) (pc := 25) dX4_setEager_25 rfl rfl ?_
    refine g_v0 (pc := 26) okV_X4_freeRuns rfl l_X4_163 dX4_setEager_26 (c_79) hc_4 (by decide) (by decide) (Nat.le_of_ble_eq_true rfl) (t_X4_freeRuns (ν := n_setst (n_rem (n_setth (ν) (0))) (s_setea (n_st ν) (0))) hi) rfl ?_
    simp only [Option.toList, List.cons_append, List.nil_append]
    refine G.eqS (v' := vI (nfr (s_setea (n_st ν) (0)))) rfl ?_
    have bb := nfr_rng (s_setea (n_st ν) (0))
    refine g_iret (pc := 29) rfl dX4_setEager_29 (fun h => h) ?_
    exact dt_i rfl (nw (by rw [show x = 0 by omega]; rfl))
  · skip
    refine g_iconst (pc := 19) dX4_setEager_19 ?_
    refine g_goto (tgt := 24) (pc := 20) dX4_setEager_20 (by decide) ?_
    refine g_iast (pc := 24) dX4_setEager_24 c_80 (by decide) ?_
    refine G.eqw w4_ea ?_
    have hi0 := hi
    have hi := inv_ea (x := 1) hi (by decide)
    refine g_aload_n (i := 0) (pc := 25) dX4_setEager_25 rfl rfl ?_
    refine g_v0 (pc := 26) okV_X4_freeRuns rfl l_X4_163 dX4_setEager_26 (c_79) hc_4 (by decide) (by decide) (Nat.le_of_ble_eq_true rfl) (t_X4_freeRuns (ν := n_setst (n_rem (n_setth (ν) (0))) (s_setea (n_st ν) (1))) hi) rfl ?_
    simp only [Option.toList, List.cons_append, List.nil_append]
    refine G.eqS (v' := vI (nfr (s_setea (n_st ν) (1)))) rfl ?_
    have bb := nfr_rng (s_setea (n_st ν) (1))
    refine g_iret (pc := 29) rfl dX4_setEager_29 (fun h => h) ?_
    exact dt_i rfl (nw (by rw [show x = 1 by omega]; rfl))
set_option maxRecDepth 20000 in
set_option maxHeartbeats 300000 in
theorem t_X4_whyNot {κ : KT} {ν : NT} {o : Nat → Int} {al : Bool} (hN : NInv ν) {p g : Int} (h_p : -2147483648 ≤ p ∧ p < 2147483648) (h_g : -2147483648 ≤ g ∧ g < 2147483648) : GM M_X4_whyNot al [vR 79, vI p, vI g] (cW κ (dE ν) o) 0 0 (dt (some (vI (nV (xc_wn (n_st ν) p g) (wn (n_st ν) p g)))) (cW κ (dE (nR ν (xc_wn (n_st ν) p g) (ν))) o)) := by
  show G _ none _ _ 0 [some (vR 79), some (vI p), some (vI g)] [] _ _ _ _
  have hi := hN.1
  have hr := hN.2.1
  refine g_aload_n (i := 0) (pc := 0) dX4_whyNot_0 rfl rfl ?_
  refine g_aload_n (i := 0) (pc := 1) dX4_whyNot_1 rfl rfl ?_
  refine g_iload_n (i := 1) (pc := 2) dX4_whyNot_2 rfl rfl ?_
  refine g_iload_n (i := 2) (pc := 3) dX4_whyNot_3 rfl rfl ?_
  refine g_v2 (pc := 4) okV_X4_isGroup rfl l_X4_169 dX4_whyNot_4 (c_79) hc_4 (by decide) (by decide) (Nat.le_of_ble_eq_true rfl) (t_X4_isGroup (ν := ν) hi (by omega) (by omega)) rfl ?_
  simp only [Option.toList, List.cons_append, List.nil_append]
  have bb := b2_rng (hasGr (n_st ν) (p) (g))
  refine g_z_eq (tgt := 14) (pc := 7) dX4_whyNot_7 (by omega) (by decide) (fun c7 => ?_) (fun c7 => ?_)
  · skip
    refine g_iconst (pc := 14) dX4_whyNot_14 ?_
    refine g_put (pc := 15) ft_X4_34 dX4_whyNot_15 (c_79) (Nat.le_of_ble_eq_true rfl) (fun _ => rfl) (fun _ => rfl) (fun h => nomatch h) ?_
    refine G.eqw v_th ?_
    refine g_aload_n (i := 0) (pc := 18) dX4_whyNot_18 rfl rfl ?_
    refine g_getf (pc := 19) f_X4_34 dX4_whyNot_19 (c_79) rfl ?_
    refine G.eqS (v' := vI (1)) rfl ?_
    refine g_z_le (tgt := 29) (pc := 22) dX4_whyNot_22 (by omega) (by decide) (fun c22 => absurd c22 (by omega)) (fun c22 => ?_)
    refine g_iconst (pc := 25) dX4_whyNot_25 ?_
    refine g_goto (tgt := 35) (pc := 26) dX4_whyNot_26 (by decide) ?_
    refine g_iret (pc := 35) rfl dX4_whyNot_35 (fun h => h) ?_
    exact df_1 (k := 1) (by unfold xc_wn; rw [if_neg (b2_0.mp (by omega))]) (by decide) (nw rfl)
  · skip
    have h_gr := b2_1.mp (show b2 (hasGr (n_st ν) p g) = 1 by omega)
    obtain ⟨⟨h_p1, h_p2, h_e⟩, h_g1, h_g2⟩ := ex_gr h_gr
    refine g_iconst (pc := 10) dX4_whyNot_10 ?_
    refine g_goto (tgt := 15) (pc := 11) dX4_whyNot_11 (by decide) ?_
    refine g_put (pc := 15) ft_X4_34 dX4_whyNot_15 (c_79) (Nat.le_of_ble_eq_true rfl) (fun _ => rfl) (fun _ => rfl) (fun h => nomatch h) ?_
    refine G.eqw v_th ?_
    refine g_aload_n (i := 0) (pc := 18) dX4_whyNot_18 rfl rfl ?_
    refine g_getf (pc := 19) f_X4_34 dX4_whyNot_19 (c_79) rfl ?_
    refine G.eqS (v' := vI (0)) rfl ?_
    refine g_z_le (tgt := 29) (pc := 22) dX4_whyNot_22 (by omega) (by decide) (fun c22 => ?_) (fun c22 => absurd c22 (by omega))
    refine g_aload_n (i := 0) (pc := 29) dX4_whyNot_29 rfl rfl ?_
    refine g_iload_n (i := 1) (pc := 30) dX4_whyNot_30 rfl rfl ?_
    refine g_iload_n (i := 2) (pc := 31) dX4_whyNot_31 rfl rfl ?_
    refine g_v2 (pc := 32) okV_X4_whyNoMarriage rfl l_X4_195 dX4_whyNot_32 (c_79) hc_4 (by decide) (by decide) (Nat.le_of_ble_eq_true rfl) (t_X4_whyNoMarriage (ν := n_setth (ν) (0)) hi (by omega) (by omega)) rfl ?_
    simp only [Option.toList, List.cons_append, List.nil_append]
    refine G.eqS (v' := vI (wn (n_st ν) (p) (g))) rfl ?_
    have bb := wn_rng (n_st ν) (p) (g)
    refine g_iret (pc := 35) rfl dX4_whyNot_35 (fun h => h) ?_
    exact df_0 (by unfold xc_wn; rw [if_pos (b2_1.mp (by omega))]) (rfl) (nw rfl)
set_option maxRecDepth 20000 in
set_option maxHeartbeats 300000 in
theorem t_X4_wouldDo {κ : KT} {ν : NT} {o : Nat → Int} {al : Bool} (hN : NInv ν) {p v : Int} (h_p : -2147483648 ≤ p ∧ p < 2147483648) (h_v : -2147483648 ≤ v ∧ v < 2147483648) : GM M_X4_wouldDo al [vR 79, vI p, vI v] (cW κ (dE ν) o) 0 0 (dt (some (vI (nV (xc_wd (n_st ν) p v) (oc (n_st ν) p v)))) (cW κ (dE (nR ν (xc_wd (n_st ν) p v) (ν))) o)) := by
  show G _ none _ _ 0 [some (vR 79), some (vI p), some (vI v)] [] _ _ _ _
  have hi := hN.1
  have hr := hN.2.1
  refine g_aload_n (i := 0) (pc := 0) dX4_wouldDo_0 rfl rfl ?_
  refine g_aload_n (i := 0) (pc := 1) dX4_wouldDo_1 rfl rfl ?_
  refine g_iload_n (i := 1) (pc := 2) dX4_wouldDo_2 rfl rfl ?_
  refine g_iload_n (i := 2) (pc := 3) dX4_wouldDo_3 rfl rfl ?_
  refine g_v2 (pc := 4) okV_X4_isPage rfl l_X4_166 dX4_wouldDo_4 (c_79) hc_4 (by decide) (by decide) (Nat.le_of_ble_eq_true rfl) (t_X4_isPage (ν := ν) hi (by omega) (by omega)) rfl ?_
  simp only [Option.toList, List.cons_append, List.nil_append]
  have bb := b2_rng (hasPg (n_st ν) (p) (v))
  refine g_z_eq (tgt := 14) (pc := 7) dX4_wouldDo_7 (by omega) (by decide) (fun c7 => ?_) (fun c7 => ?_)
  · skip
    refine g_iconst (pc := 14) dX4_wouldDo_14 ?_
    refine g_put (pc := 15) ft_X4_34 dX4_wouldDo_15 (c_79) (Nat.le_of_ble_eq_true rfl) (fun _ => rfl) (fun _ => rfl) (fun h => nomatch h) ?_
    refine G.eqw v_th ?_
    refine g_aload_n (i := 0) (pc := 18) dX4_wouldDo_18 rfl rfl ?_
    refine g_getf (pc := 19) f_X4_34 dX4_wouldDo_19 (c_79) rfl ?_
    refine G.eqS (v' := vI (1)) rfl ?_
    refine g_z_le (tgt := 29) (pc := 22) dX4_wouldDo_22 (by omega) (by decide) (fun c22 => absurd c22 (by omega)) (fun c22 => ?_)
    refine g_iconst (pc := 25) dX4_wouldDo_25 ?_
    refine g_goto (tgt := 35) (pc := 26) dX4_wouldDo_26 (by decide) ?_
    refine g_iret (pc := 35) rfl dX4_wouldDo_35 (fun h => h) ?_
    exact df_1 (k := 1) (by unfold xc_wd; rw [if_neg (b2_0.mp (by omega))]) (by decide) (nw rfl)
  · skip
    have h_pg := b2_1.mp (show b2 (hasPg (n_st ν) p v) = 1 by omega)
    refine g_iconst (pc := 10) dX4_wouldDo_10 ?_
    refine g_goto (tgt := 15) (pc := 11) dX4_wouldDo_11 (by decide) ?_
    refine g_put (pc := 15) ft_X4_34 dX4_wouldDo_15 (c_79) (Nat.le_of_ble_eq_true rfl) (fun _ => rfl) (fun _ => rfl) (fun h => nomatch h) ?_
    refine G.eqw v_th ?_
    refine g_aload_n (i := 0) (pc := 18) dX4_wouldDo_18 rfl rfl ?_
    refine g_getf (pc := 19) f_X4_34 dX4_wouldDo_19 (c_79) rfl ?_
    refine G.eqS (v' := vI (0)) rfl ?_
    refine g_z_le (tgt := 29) (pc := 22) dX4_wouldDo_22 (by omega) (by decide) (fun c22 => ?_) (fun c22 => absurd c22 (by omega))
    refine g_aload_n (i := 0) (pc := 29) dX4_wouldDo_29 rfl rfl ?_
    refine g_iload_n (i := 1) (pc := 30) dX4_wouldDo_30 rfl rfl ?_
    refine g_iload_n (i := 2) (pc := 31) dX4_wouldDo_31 rfl rfl ?_
    refine g_v2 (pc := 32) okV_X4_outcome rfl l_X4_90 dX4_wouldDo_32 (c_79) hc_4 (by decide) (by decide) (Nat.le_of_ble_eq_true rfl) (t_X4_outcome (ν := n_setth (ν) (0)) hi (by first | assumption | exact h_pg)) rfl ?_
    simp only [Option.toList, List.cons_append, List.nil_append]
    refine G.eqS (v' := vI (oc (n_st ν) (p) (v))) rfl ?_
    have bb := oc_rng (n_st ν) (p) (v)
    refine g_iret (pc := 35) rfl dX4_wouldDo_35 (fun h => h) ?_
    exact df_0 (by unfold xc_wd; rw [if_pos (b2_1.mp (by omega))]) (rfl) (nw rfl)
set_option maxRecDepth 20000 in
set_option maxHeartbeats 300000 in
theorem t_X4_page {κ : KT} {ν : NT} {o : Nat → Int} {al : Bool} (hN : NInv ν) {p v x : Int} (h_p : -2147483648 ≤ p ∧ p < 2147483648) (h_v : -2147483648 ≤ v ∧ v < 2147483648) (h_x : -2147483648 ≤ x ∧ x < 2147483648) : GM M_X4_page al [vR 79, vI p, vI v, vI x] (cW κ (dE ν) o) 0 0 (dt (some (vI (nV (xc_pg (n_st ν) p v x) (pgv (n_st ν) p v x)))) (cW κ (dE (nR ν (xc_pg (n_st ν) p v x) (ν))) o)) := by
  show G _ none _ _ 0 [some (vR 79), some (vI p), some (vI v), some (vI x), none] [] _ _ _ _
  have hi := hN.1
  have hr := hN.2.1
  refine g_aload_n (i := 0) (pc := 0) dX4_page_0 rfl rfl ?_
  refine g_aload_n (i := 0) (pc := 1) dX4_page_1 rfl rfl ?_
  refine g_iload_n (i := 1) (pc := 2) dX4_page_2 rfl rfl ?_
  refine g_iload_n (i := 2) (pc := 3) dX4_page_3 rfl rfl ?_
  refine g_v2 (pc := 4) okV_X4_isPage rfl l_X4_166 dX4_page_4 (c_79) hc_4 (by decide) (by decide) (Nat.le_of_ble_eq_true rfl) (t_X4_isPage (ν := ν) hi (by omega) (by omega)) rfl ?_
  simp only [Option.toList, List.cons_append, List.nil_append]
  have bb := b2_rng (hasPg (n_st ν) (p) (v))
  refine g_z_ne (tgt := 14) (pc := 7) dX4_page_7 (by omega) (by decide) (fun c7 => ?_) (fun c7 => ?_)
  · skip
    have h_pg := b2_1.mp (show b2 (hasPg (n_st ν) p v) = 1 by omega)
    obtain ⟨⟨h_p1, h_p2, h_e⟩, h_v1, h_v2⟩ := ex_pg h_pg
    refine g_iload_n (i := 3) (pc := 14) dX4_page_14 rfl rfl ?_
    refine g_iconst (pc := 15) dX4_page_15 ?_
    refine g_iconst (pc := 16) dX4_page_16 ?_
    refine g_s3 (pc := 17) okS_X4_within rfl l_X4_38 dX4_page_17 (by decide) (by decide) (Nat.le_of_ble_eq_true rfl) (t_X4_within (by omega) (by omega) (by omega)) rfl ?_
    simp only [Option.toList, List.cons_append, List.nil_append]
    have bb := b2_rng (decide (0 ≤ x ∧ x ≤ 3))
    have b1 := b2_dec (p := 0 ≤ x ∧ x ≤ 3)
    refine g_z_eq (tgt := 27) (pc := 20) dX4_page_20 (by omega) (by decide) (fun c20 => ?_) (fun c20 => ?_)
    · skip
      refine g_iconst (pc := 27) dX4_page_27 ?_
      refine g_put (pc := 28) ft_X4_34 dX4_page_28 (c_79) (Nat.le_of_ble_eq_true rfl) (fun _ => rfl) (fun _ => rfl) (fun h => nomatch h) ?_
      refine G.eqw v_th ?_
      refine g_aload_n (i := 0) (pc := 31) dX4_page_31 rfl rfl ?_
      refine g_getf (pc := 32) f_X4_34 dX4_page_32 (c_79) rfl ?_
      refine G.eqS (v' := vI (2)) rfl ?_
      refine g_z_le (tgt := 40) (pc := 35) dX4_page_35 (by omega) (by decide) (fun c35 => absurd c35 (by omega)) (fun c35 => ?_)
      refine g_iconst (pc := 38) dX4_page_38 ?_
      refine g_iret (pc := 39) rfl dX4_page_39 (fun h => h) ?_
      exact df_1 (k := 2) (by unfold xc_pg; rw [if_pos (b2_1.mp (by omega)), if_neg (by omega)]) (by decide) (nw rfl)
    · skip
      refine g_iconst (pc := 23) dX4_page_23 ?_
      refine g_goto (tgt := 28) (pc := 24) dX4_page_24 (by decide) ?_
      refine g_put (pc := 28) ft_X4_34 dX4_page_28 (c_79) (Nat.le_of_ble_eq_true rfl) (fun _ => rfl) (fun _ => rfl) (fun h => nomatch h) ?_
      refine G.eqw v_th ?_
      refine g_aload_n (i := 0) (pc := 31) dX4_page_31 rfl rfl ?_
      refine g_getf (pc := 32) f_X4_34 dX4_page_32 (c_79) rfl ?_
      refine G.eqS (v' := vI (0)) rfl ?_
      refine g_z_le (tgt := 40) (pc := 35) dX4_page_35 (by omega) (by decide) (fun c35 => ?_) (fun c35 => absurd c35 (by omega))
      refine g_aload_n (i := 0) (pc := 40) dX4_page_40 rfl rfl ?_
      refine g_iload_n (i := 1) (pc := 41) dX4_page_41 rfl rfl ?_
      refine g_iload_n (i := 2) (pc := 42) dX4_page_42 rfl rfl ?_
      refine g_v2 (pc := 43) okV_X4_frameOf rfl l_X4_53 dX4_page_43 (c_79) hc_4 (by decide) (by decide) (Nat.le_of_ble_eq_true rfl) (t_X4_frameOf (ν := n_setth (ν) (0)) hi (by omega) (by omega)) rfl ?_
      simp only [Option.toList, List.cons_append, List.nil_append]
      refine G.eqS (v' := vI (fo (n_st ν) (p) (v))) rfl ?_
      have bb := fo_rng (σ := (n_st ν)) hi (p) (v)
      refine g_istore (pc := 46) dX4_page_46 (by decide) rfl ?_
      simp only [List.set_cons_succ, List.set_cons_zero]
      refine g_iload_n (i := 3) (pc := 48) dX4_page_48 rfl rfl ?_
      refine g_iconst (pc := 49) dX4_page_49 ?_
      refine g_c_ne (tgt := 70) (pc := 50) dX4_page_50 (by omega) (by decide) (fun c50 => ?_) (fun c50 => ?_)
      · skip
        refine g_iload (pc := 70) dX4_page_70 rfl ?_
        refine g_iconst (pc := 72) dX4_page_72 ?_
        refine g_c_ne (tgt := 80) (pc := 73) dX4_page_73 (by omega) (by decide) (fun c73 => ?_) (fun c73 => ?_)
        · skip
          refine g_iload_n (i := 3) (pc := 80) dX4_page_80 rfl rfl ?_
          refine g_z_ne (tgt := 89) (pc := 81) dX4_page_81 (by omega) (by decide) (fun c81 => ?_) (fun c81 => ?_)
          · skip
            refine g_iload_n (i := 3) (pc := 89) dX4_page_89 rfl rfl ?_
            refine g_iconst (pc := 90) dX4_page_90 ?_
            refine g_c_ne (tgt := 103) (pc := 91) dX4_page_91 (by omega) (by decide) (fun c91 => ?_) (fun c91 => ?_)
            · skip
              refine g_aload_n (i := 0) (pc := 103) dX4_page_103 rfl rfl ?_
              refine g_iload (pc := 104) dX4_page_104 rfl ?_
              refine g_v1 (pc := 106) okV_X4_uses rfl l_X4_46 dX4_page_106 (c_79) hc_4 (by decide) (by decide) (Nat.le_of_ble_eq_true rfl) (t_X4_uses (ν := n_setth (ν) (0)) hi (by omega)) rfl ?_
              simp only [Option.toList, List.cons_append, List.nil_append]
              refine G.eqS (v' := vI (uses (s_fr (n_st ν)) ((fo (n_st ν) (p) (v))))) rfl ?_
              have bb := uses_rng (s_fr (n_st ν)) ((fo (n_st ν) (p) (v)))
              refine g_iret (pc := 109) rfl dX4_page_109 (fun h => h) ?_
              exact df_0 (by unfold xc_pg; rw [if_pos (b2_1.mp (by omega)), if_pos (by omega)]) (by unfold pgv; unfold uo; rw [if_neg (by omega), if_neg (by omega), if_pos (by omega), if_neg (by omega)]) (nw rfl)
            · skip
              refine g_aload_n (i := 0) (pc := 94) dX4_page_94 rfl rfl ?_
              refine g_iload (pc := 95) dX4_page_95 rfl ?_
              refine g_v1 (pc := 97) okV_X4_valueOf rfl l_X4_109 dX4_page_97 (c_79) hc_4 (by decide) (by decide) (Nat.le_of_ble_eq_true rfl) (t_X4_valueOf (ν := n_setth (ν) (0)) hi (by omega)) rfl ?_
              simp only [Option.toList, List.cons_append, List.nil_append]
              refine G.eqS (v' := vI (s_va (n_st ν) ((fo (n_st ν) (p) (v))).toNat)) rfl ?_
              have bb := va_rng (σ := (n_st ν)) hi ((fo (n_st ν) (p) (v)))
              refine g_goto (tgt := 109) (pc := 100) dX4_page_100 (by decide) ?_
              refine g_iret (pc := 109) rfl dX4_page_109 (fun h => h) ?_
              exact df_0 (by unfold xc_pg; rw [if_pos (b2_1.mp (by omega)), if_pos (by omega)]) (by unfold pgv; unfold vo; rw [if_neg (by omega), if_pos (by omega), if_neg (by omega)]) (nw rfl)
          · skip
            refine g_iload (pc := 84) dX4_page_84 rfl ?_
            refine g_goto (tgt := 109) (pc := 86) dX4_page_86 (by decide) ?_
            refine g_iret (pc := 109) rfl dX4_page_109 (fun h => h) ?_
            exact df_0 (by unfold xc_pg; rw [if_pos (b2_1.mp (by omega)), if_pos (by omega)]) (by unfold pgv; rw [if_pos (by omega)]) (nw rfl)
        · skip
          refine g_iconst (pc := 76) dX4_page_76 ?_
          refine g_goto (tgt := 109) (pc := 77) dX4_page_77 (by decide) ?_
          refine g_iret (pc := 109) rfl dX4_page_109 (fun h => h) ?_
          have e1 : vo (n_st ν) p v = -1 := by unfold vo; rw [if_pos (by omega)]
          have e2 : uo (n_st ν) p v = -1 := by unfold uo; rw [if_pos (by omega)]
          have e3 : fo (n_st ν) p v = -1 := by omega
          exact df_0 (by unfold xc_pg; rw [if_pos (b2_1.mp (by omega)), if_pos (by omega)]) (by unfold pgv; rcases (by omega : x = 0 ∨ x = 1 ∨ x = 2) with q | q | q <;> simp [q, e1, e2, e3]) (nw rfl)
      · skip
        refine g_aload_n (i := 0) (pc := 53) dX4_page_53 rfl rfl ?_
        refine g_iload_n (i := 1) (pc := 54) dX4_page_54 rfl rfl ?_
        refine g_iload_n (i := 2) (pc := 55) dX4_page_55 rfl rfl ?_
        refine g_iconst (pc := 56) dX4_page_56 ?_
        have d9 := Int.tdiv_eq_ediv_of_nonneg (a := v) (b := 4) (by omega)
        refine g_idiv (pc := 57) dX4_page_57 (by omega) (by omega) ?_
        refine g_v2 (pc := 58) okV_X4_isBig rfl l_X4_60 dX4_page_58 (c_79) hc_4 (by decide) (by decide) (Nat.le_of_ble_eq_true rfl) (t_X4_isBig (ν := n_setth (ν) (0)) hi (by omega) (by omega)) rfl ?_
        simp only [Option.toList, List.cons_append, List.nil_append]
        refine G.eqS (v' := vI (b2 (big (n_st ν) (p) ((Int.tdiv v 4))))) rfl ?_
        have bb := b2_rng (big (n_st ν) (p) ((Int.tdiv v 4)))
        refine g_z_eq (tgt := 68) (pc := 61) dX4_page_61 (by omega) (by decide) (fun c61 => ?_) (fun c61 => ?_)
        · skip
          refine g_iconst (pc := 68) dX4_page_68 ?_
          refine g_iret (pc := 69) rfl dX4_page_69 (fun h => h) ?_
          exact df_0 (by unfold xc_pg; rw [if_pos (b2_1.mp (by omega)), if_pos (by omega)]) (by unfold pgv; rw [if_neg (by omega), if_neg (by omega), if_neg (by omega), show b2 (big (n_st ν) p (v.tdiv 4)) = 0 by omega]) (nw rfl)
        · skip
          refine g_iconst (pc := 64) dX4_page_64 ?_
          refine g_goto (tgt := 69) (pc := 65) dX4_page_65 (by decide) ?_
          refine g_iret (pc := 69) rfl dX4_page_69 (fun h => h) ?_
          exact df_0 (by unfold xc_pg; rw [if_pos (b2_1.mp (by omega)), if_pos (by omega)]) (by unfold pgv; rw [if_neg (by omega), if_neg (by omega), if_neg (by omega), show b2 (big (n_st ν) p (v.tdiv 4)) = 1 by omega]) (nw rfl)
  · skip
    refine g_iconst (pc := 10) dX4_page_10 ?_
    refine g_goto (tgt := 28) (pc := 11) dX4_page_11 (by decide) ?_
    refine g_put (pc := 28) ft_X4_34 dX4_page_28 (c_79) (Nat.le_of_ble_eq_true rfl) (fun _ => rfl) (fun _ => rfl) (fun h => nomatch h) ?_
    refine G.eqw v_th ?_
    refine g_aload_n (i := 0) (pc := 31) dX4_page_31 rfl rfl ?_
    refine g_getf (pc := 32) f_X4_34 dX4_page_32 (c_79) rfl ?_
    refine G.eqS (v' := vI (1)) rfl ?_
    refine g_z_le (tgt := 40) (pc := 35) dX4_page_35 (by omega) (by decide) (fun c35 => absurd c35 (by omega)) (fun c35 => ?_)
    refine g_iconst (pc := 38) dX4_page_38 ?_
    refine g_iret (pc := 39) rfl dX4_page_39 (fun h => h) ?_
    exact df_1 (k := 1) (by unfold xc_pg; rw [if_neg (b2_0.mp (by omega))]) (by decide) (nw rfl)
set_option maxRecDepth 20000 in
set_option maxHeartbeats 300000 in
theorem t_X4_group {κ : KT} {ν : NT} {o : Nat → Int} {al : Bool} (hN : NInv ν) {p g x : Int} (h_p : -2147483648 ≤ p ∧ p < 2147483648) (h_g : -2147483648 ≤ g ∧ g < 2147483648) (h_x : -2147483648 ≤ x ∧ x < 2147483648) : GM M_X4_group al [vR 79, vI p, vI g, vI x] (cW κ (dE ν) o) 0 0 (dt (some (vI (nV (xc_gr (n_st ν) p g x) (grv (n_st ν) p g x)))) (cW κ (dE (nR ν (xc_gr (n_st ν) p g x) (ν))) o)) := by
  show G _ none _ _ 0 [some (vR 79), some (vI p), some (vI g), some (vI x)] [] _ _ _ _
  have hi := hN.1
  have hr := hN.2.1
  refine g_aload_n (i := 0) (pc := 0) dX4_group_0 rfl rfl ?_
  refine g_aload_n (i := 0) (pc := 1) dX4_group_1 rfl rfl ?_
  refine g_iload_n (i := 1) (pc := 2) dX4_group_2 rfl rfl ?_
  refine g_iload_n (i := 2) (pc := 3) dX4_group_3 rfl rfl ?_
  refine g_v2 (pc := 4) okV_X4_isGroup rfl l_X4_169 dX4_group_4 (c_79) hc_4 (by decide) (by decide) (Nat.le_of_ble_eq_true rfl) (t_X4_isGroup (ν := ν) hi (by omega) (by omega)) rfl ?_
  simp only [Option.toList, List.cons_append, List.nil_append]
  have bb := b2_rng (hasGr (n_st ν) (p) (g))
  refine g_z_ne (tgt := 14) (pc := 7) dX4_group_7 (by omega) (by decide) (fun c7 => ?_) (fun c7 => ?_)
  · skip
    have h_gr := b2_1.mp (show b2 (hasGr (n_st ν) p g) = 1 by omega)
    obtain ⟨⟨h_p1, h_p2, h_e⟩, h_g1, h_g2⟩ := ex_gr h_gr
    refine g_iload_n (i := 3) (pc := 14) dX4_group_14 rfl rfl ?_
    refine g_iconst (pc := 15) dX4_group_15 ?_
    refine g_iconst (pc := 16) dX4_group_16 ?_
    refine g_s3 (pc := 17) okS_X4_within rfl l_X4_38 dX4_group_17 (by decide) (by decide) (Nat.le_of_ble_eq_true rfl) (t_X4_within (by omega) (by omega) (by omega)) rfl ?_
    simp only [Option.toList, List.cons_append, List.nil_append]
    have bb := b2_rng (decide (0 ≤ x ∧ x ≤ 4))
    have b1 := b2_dec (p := 0 ≤ x ∧ x ≤ 4)
    refine g_z_eq (tgt := 27) (pc := 20) dX4_group_20 (by omega) (by decide) (fun c20 => ?_) (fun c20 => ?_)
    · skip
      refine g_iconst (pc := 27) dX4_group_27 ?_
      refine g_put (pc := 28) ft_X4_34 dX4_group_28 (c_79) (Nat.le_of_ble_eq_true rfl) (fun _ => rfl) (fun _ => rfl) (fun h => nomatch h) ?_
      refine G.eqw v_th ?_
      refine g_aload_n (i := 0) (pc := 31) dX4_group_31 rfl rfl ?_
      refine g_getf (pc := 32) f_X4_34 dX4_group_32 (c_79) rfl ?_
      refine G.eqS (v' := vI (2)) rfl ?_
      refine g_z_le (tgt := 40) (pc := 35) dX4_group_35 (by omega) (by decide) (fun c35 => absurd c35 (by omega)) (fun c35 => ?_)
      refine g_iconst (pc := 38) dX4_group_38 ?_
      refine g_iret (pc := 39) rfl dX4_group_39 (fun h => h) ?_
      exact df_1 (k := 2) (by unfold xc_gr; rw [if_pos (b2_1.mp (by omega)), if_neg (by omega)]) (by decide) (nw rfl)
    · skip
      refine g_iconst (pc := 23) dX4_group_23 ?_
      refine g_goto (tgt := 28) (pc := 24) dX4_group_24 (by decide) ?_
      refine g_put (pc := 28) ft_X4_34 dX4_group_28 (c_79) (Nat.le_of_ble_eq_true rfl) (fun _ => rfl) (fun _ => rfl) (fun h => nomatch h) ?_
      refine G.eqw v_th ?_
      refine g_aload_n (i := 0) (pc := 31) dX4_group_31 rfl rfl ?_
      refine g_getf (pc := 32) f_X4_34 dX4_group_32 (c_79) rfl ?_
      refine G.eqS (v' := vI (0)) rfl ?_
      refine g_z_le (tgt := 40) (pc := 35) dX4_group_35 (by omega) (by decide) (fun c35 => ?_) (fun c35 => absurd c35 (by omega))
      refine g_iload_n (i := 3) (pc := 40) dX4_group_40 rfl rfl ?_
      by_cases sw41 : 0 ≤ x ∧ x ≤ 3
      · rcases (by omega : x = 0 ∨ x = 1 ∨ x = 2 ∨ x = 3) with ew41 | ew41 | ew41 | ew41
        · refine g_tsIn (tgt := 72) (pc := 41) dX4_group_41 (by omega) (by omega) (by omega) (by rw [ew41]; rfl) (by decide) ?_
          refine g_aload_n (i := 0) (pc := 72) dX4_group_72 rfl rfl ?_
          refine g_iload_n (i := 1) (pc := 73) dX4_group_73 rfl rfl ?_
          refine g_iload_n (i := 2) (pc := 74) dX4_group_74 rfl rfl ?_
          refine g_v2 (pc := 75) okV_X4_placedIn rfl l_X4_70 dX4_group_75 (c_79) hc_4 (by decide) (by decide) (Nat.le_of_ble_eq_true rfl) (t_X4_placedIn (ν := n_setth (ν) (0)) hi (by omega) (by omega)) rfl ?_
          simp only [Option.toList, List.cons_append, List.nil_append]
          refine G.eqS (v' := vI (pf (n_st ν) (p) (g))) rfl ?_
          have bb := pf_rng (n_st ν) (p) (g)
          refine g_iret (pc := 78) rfl dX4_group_78 (fun h => h) ?_
          exact df_0 (by unfold xc_gr; rw [if_pos (b2_1.mp (by omega)), if_pos (by omega)]) (by unfold grv; rw [if_pos (by omega)]) (nw rfl)
        · refine g_tsIn (tgt := 79) (pc := 41) dX4_group_41 (by omega) (by omega) (by omega) (by rw [ew41]; rfl) (by decide) ?_
          refine g_aload_n (i := 0) (pc := 79) dX4_group_79 rfl rfl ?_
          refine g_iload_n (i := 1) (pc := 80) dX4_group_80 rfl rfl ?_
          refine g_iload_n (i := 2) (pc := 81) dX4_group_81 rfl rfl ?_
          refine g_v2 (pc := 82) okV_X4_isBig rfl l_X4_60 dX4_group_82 (c_79) hc_4 (by decide) (by decide) (Nat.le_of_ble_eq_true rfl) (t_X4_isBig (ν := n_setth (ν) (0)) hi (by omega) (by omega)) rfl ?_
          simp only [Option.toList, List.cons_append, List.nil_append]
          refine G.eqS (v' := vI (b2 (big (n_st ν) (p) (g)))) rfl ?_
          have bb := b2_rng (big (n_st ν) (p) (g))
          refine g_z_eq (tgt := 92) (pc := 85) dX4_group_85 (by omega) (by decide) (fun c85 => ?_) (fun c85 => ?_)
          · skip
            refine g_iconst (pc := 92) dX4_group_92 ?_
            refine g_iret (pc := 93) rfl dX4_group_93 (fun h => h) ?_
            exact df_0 (by unfold xc_gr; rw [if_pos (b2_1.mp (by omega)), if_pos (by omega)]) (by unfold grv; rw [if_neg (by omega), if_pos (by omega)]; omega) (nw rfl)
          · skip
            refine g_iconst (pc := 88) dX4_group_88 ?_
            refine g_goto (tgt := 93) (pc := 89) dX4_group_89 (by decide) ?_
            refine g_iret (pc := 93) rfl dX4_group_93 (fun h => h) ?_
            exact df_0 (by unfold xc_gr; rw [if_pos (b2_1.mp (by omega)), if_pos (by omega)]) (by unfold grv; rw [if_neg (by omega), if_pos (by omega)]; omega) (nw rfl)
        · refine g_tsIn (tgt := 94) (pc := 41) dX4_group_41 (by omega) (by omega) (by omega) (by rw [ew41]; rfl) (by decide) ?_
          refine g_aload_n (i := 0) (pc := 94) dX4_group_94 rfl rfl ?_
          refine g_iload_n (i := 1) (pc := 95) dX4_group_95 rfl rfl ?_
          refine g_iload_n (i := 2) (pc := 96) dX4_group_96 rfl rfl ?_
          refine g_v2 (pc := 97) okV_X4_isWidow rfl l_X4_160 dX4_group_97 (c_79) hc_4 (by decide) (by decide) (Nat.le_of_ble_eq_true rfl) (t_X4_isWidow (ν := n_setth (ν) (0)) hi (by omega) (by omega)) rfl ?_
          simp only [Option.toList, List.cons_append, List.nil_append]
          refine G.eqS (v' := vI (b2 (wid (n_st ν) (p) (g)))) rfl ?_
          have bb := b2_rng (wid (n_st ν) (p) (g))
          refine g_z_eq (tgt := 107) (pc := 100) dX4_group_100 (by omega) (by decide) (fun c100 => ?_) (fun c100 => ?_)
          · skip
            refine g_iconst (pc := 107) dX4_group_107 ?_
            refine g_iret (pc := 108) rfl dX4_group_108 (fun h => h) ?_
            exact df_0 (by unfold xc_gr; rw [if_pos (b2_1.mp (by omega)), if_pos (by omega)]) (by unfold grv; rw [if_neg (by omega), if_neg (by omega), if_pos (by omega)]; omega) (nw rfl)
          · skip
            refine g_iconst (pc := 103) dX4_group_103 ?_
            refine g_goto (tgt := 108) (pc := 104) dX4_group_104 (by decide) ?_
            refine g_iret (pc := 108) rfl dX4_group_108 (fun h => h) ?_
            exact df_0 (by unfold xc_gr; rw [if_pos (b2_1.mp (by omega)), if_pos (by omega)]) (by unfold grv; rw [if_neg (by omega), if_neg (by omega), if_pos (by omega)]; omega) (nw rfl)
        · refine g_tsIn (tgt := 109) (pc := 41) dX4_group_41 (by omega) (by omega) (by omega) (by rw [ew41]; rfl) (by decide) ?_
          refine g_aload_n (i := 0) (pc := 109) dX4_group_109 rfl rfl ?_
          refine g_iload_n (i := 1) (pc := 110) dX4_group_110 rfl rfl ?_
          refine g_iload_n (i := 2) (pc := 111) dX4_group_111 rfl rfl ?_
          refine g_v2 (pc := 112) okV_X4_sharedIn rfl l_X4_64 dX4_group_112 (c_79) hc_4 (by decide) (by decide) (Nat.le_of_ble_eq_true rfl) (t_X4_sharedIn (ν := n_setth (ν) (0)) hi (by omega) (by omega)) rfl ?_
          simp only [Option.toList, List.cons_append, List.nil_append]
          refine G.eqS (v' := vI (ps (n_st ν) (p) (g))) rfl ?_
          have bb := ps_rng (n_st ν) (p) (g)
          refine g_iret (pc := 115) rfl dX4_group_115 (fun h => h) ?_
          exact df_0 (by unfold xc_gr; rw [if_pos (b2_1.mp (by omega)), if_pos (by omega)]) (by unfold grv; rw [if_neg (by omega), if_neg (by omega), if_neg (by omega), if_pos (by omega)]) (nw rfl)
      · refine g_tsOut (tgt := 116) (pc := 41) dX4_group_41 (by omega) (by omega) (by decide) ?_
        refine g_aload_n (i := 0) (pc := 116) dX4_group_116 rfl rfl ?_
        refine g_iload_n (i := 1) (pc := 117) dX4_group_117 rfl rfl ?_
        refine g_iload_n (i := 2) (pc := 118) dX4_group_118 rfl rfl ?_
        refine g_v2 (pc := 119) okV_X4_runOf rfl l_X4_67 dX4_group_119 (c_79) hc_4 (by decide) (by decide) (Nat.le_of_ble_eq_true rfl) (t_X4_runOf (ν := n_setth (ν) (0)) hi (by omega) (by omega)) rfl ?_
        simp only [Option.toList, List.cons_append, List.nil_append]
        refine G.eqS (v' := vI (ro (n_st ν) (p) (g))) rfl ?_
        have bb := ro_rng (σ := (n_st ν)) hi (p) (g)
        refine g_iret (pc := 122) rfl dX4_group_122 (fun h => h) ?_
        exact df_0 (by unfold xc_gr; rw [if_pos (b2_1.mp (by omega)), if_pos (by omega)]) (by unfold grv; rw [if_neg (by omega), if_neg (by omega), if_neg (by omega), if_neg (by omega)]) (nw rfl)
  · skip
    refine g_iconst (pc := 10) dX4_group_10 ?_
    refine g_goto (tgt := 28) (pc := 11) dX4_group_11 (by decide) ?_
    refine g_put (pc := 28) ft_X4_34 dX4_group_28 (c_79) (Nat.le_of_ble_eq_true rfl) (fun _ => rfl) (fun _ => rfl) (fun h => nomatch h) ?_
    refine G.eqw v_th ?_
    refine g_aload_n (i := 0) (pc := 31) dX4_group_31 rfl rfl ?_
    refine g_getf (pc := 32) f_X4_34 dX4_group_32 (c_79) rfl ?_
    refine G.eqS (v' := vI (1)) rfl ?_
    refine g_z_le (tgt := 40) (pc := 35) dX4_group_35 (by omega) (by decide) (fun c35 => absurd c35 (by omega)) (fun c35 => ?_)
    refine g_iconst (pc := 38) dX4_group_38 ?_
    refine g_iret (pc := 39) rfl dX4_group_39 (fun h => h) ?_
    exact df_1 (k := 1) (by unfold xc_gr; rw [if_neg (b2_0.mp (by omega))]) (by decide) (nw rfl)
set_option maxRecDepth 20000 in
set_option maxHeartbeats 300000 in
theorem t_X4_append {κ : KT} {ν : NT} {o : Nat → Int} {al : Bool} (hN : NInv ν) {x : Int} (h_x : -2147483648 ≤ x ∧ x < 2147483648) : GM M_X4_append al [vR 79, vI x] (cW κ (dE ν) o) 0 0 (dt (some (vI (nV (xn_app ν x) (n_tl ν + 1)))) (cW κ (dE (nR ν (xn_app ν x) (n_settl (n_settx ν (va_up (n_tx ν) (n_tl ν).toNat x)) (n_tl ν + 1)))) o)) := by
  show G _ none _ _ 0 [some (vR 79), some (vI x)] [] _ _ _ _
  have hi := hN.1
  have hr := hN.2.1
  have ht := hN.2.2.2.2.2.2
  refine g_aload_n (i := 0) (pc := 0) dX4_append_0 rfl rfl ?_
  refine g_iload_n (i := 1) (pc := 1) dX4_append_1 rfl rfl ?_
  refine g_iconst (pc := 2) dX4_append_2 ?_
  refine g_sipush (pc := 3) dX4_append_3 (by decide) ?_
  refine g_s3 (pc := 6) okS_X4_within rfl l_X4_38 dX4_append_6 (by decide) (by decide) (Nat.le_of_ble_eq_true rfl) (t_X4_within (by omega) (by omega) (by omega)) rfl ?_
  simp only [Option.toList, List.cons_append, List.nil_append]
  have bb := b2_rng (decide (0 ≤ x ∧ x ≤ 255))
  have b1 := b2_dec (p := 0 ≤ x ∧ x ≤ 255)
  refine g_z_ne (tgt := 16) (pc := 9) dX4_append_9 (by omega) (by decide) (fun c9 => ?_) (fun c9 => ?_)
  · skip
    refine g_aload_n (i := 0) (pc := 16) dX4_append_16 rfl rfl ?_
    refine g_getf (pc := 17) f_X4_124 dX4_append_17 (c_79) rfl ?_
    refine G.eqS (v' := vI ((n_tl ν))) rfl ?_
    refine g_bipush (pc := 20) dX4_append_20 (by decide) ?_
    refine g_c_ne (tgt := 29) (pc := 22) dX4_append_22 (by omega) (by decide) (fun c22 => ?_) (fun c22 => ?_)
    · skip
      refine g_iconst (pc := 29) dX4_append_29 ?_
      refine g_put (pc := 30) ft_X4_34 dX4_append_30 (c_79) (Nat.le_of_ble_eq_true rfl) (fun _ => rfl) (fun _ => rfl) (fun h => nomatch h) ?_
      refine G.eqw v_th ?_
      refine g_aload_n (i := 0) (pc := 33) dX4_append_33 rfl rfl ?_
      refine g_getf (pc := 34) f_X4_34 dX4_append_34 (c_79) rfl ?_
      refine G.eqS (v' := vI (0)) rfl ?_
      refine g_z_le (tgt := 42) (pc := 37) dX4_append_37 (by omega) (by decide) (fun c37 => ?_) (fun c37 => absurd c37 (by omega))
      refine g_aload_n (i := 0) (pc := 42) dX4_append_42 rfl rfl ?_
      refine g_getf (pc := 43) f_X4_28 dX4_append_43 (c_79) rfl ?_
      refine g_aload_n (i := 0) (pc := 46) dX4_append_46 rfl rfl ?_
      refine g_getf (pc := 47) f_X4_124 dX4_append_47 (c_79) rfl ?_
      refine G.eqS (v' := vI ((n_tl ν))) rfl ?_
      refine g_iload_n (i := 1) (pc := 50) dX4_append_50 rfl rfl ?_
      refine g_iast (pc := 51) dX4_append_51 (c_86) (by omega) ?_
      refine G.eqw v_tx ?_
      refine g_aload_n (i := 0) (pc := 52) dX4_append_52 rfl rfl ?_
      refine g_dup (pc := 53) dX4_append_53 (fun z h => nomatch h) ?_
      refine g_getf (pc := 54) f_X4_124 dX4_append_54 (c_79) rfl ?_
      refine G.eqS (v' := vI ((n_tl ν))) rfl ?_
      refine g_iconst (pc := 57) dX4_append_57 ?_
      refine g_iadd (pc := 58) dX4_append_58 ?_
      refine g_put (pc := 59) ft_X4_124 dX4_append_59 (c_79) (Nat.le_of_ble_eq_true rfl) (fun _ => rfl) (fun _ => rfl) (fun h => nomatch h) ?_
      refine G.eqw v_tl ?_
      refine g_aload_n (i := 0) (pc := 62) dX4_append_62 rfl rfl ?_
      refine g_getf (pc := 63) f_X4_124 dX4_append_63 (c_79) rfl ?_
      refine G.eqS (v' := vI ((((n_tl ν) + 1)))) rfl ?_
      refine g_iret (pc := 66) rfl dX4_append_66 (fun h => h) ?_
      exact df_0 (by unfold xn_app; rw [if_neg (by omega), if_neg (by omega)]) (rfl) (nw rfl)
    · skip
      refine g_iconst (pc := 25) dX4_append_25 ?_
      refine g_goto (tgt := 30) (pc := 26) dX4_append_26 (by decide) ?_
      refine g_put (pc := 30) ft_X4_34 dX4_append_30 (c_79) (Nat.le_of_ble_eq_true rfl) (fun _ => rfl) (fun _ => rfl) (fun h => nomatch h) ?_
      refine G.eqw v_th ?_
      refine g_aload_n (i := 0) (pc := 33) dX4_append_33 rfl rfl ?_
      refine g_getf (pc := 34) f_X4_34 dX4_append_34 (c_79) rfl ?_
      refine G.eqS (v' := vI (2)) rfl ?_
      refine g_z_le (tgt := 42) (pc := 37) dX4_append_37 (by omega) (by decide) (fun c37 => absurd c37 (by omega)) (fun c37 => ?_)
      refine g_iconst (pc := 40) dX4_append_40 ?_
      refine g_iret (pc := 41) rfl dX4_append_41 (fun h => h) ?_
      exact df_1 (k := 2) (by unfold xn_app; rw [if_neg (by omega), if_pos (by omega)]) (by decide) (nw rfl)
  · skip
    refine g_iconst (pc := 12) dX4_append_12 ?_
    refine g_goto (tgt := 30) (pc := 13) dX4_append_13 (by decide) ?_
    refine g_put (pc := 30) ft_X4_34 dX4_append_30 (c_79) (Nat.le_of_ble_eq_true rfl) (fun _ => rfl) (fun _ => rfl) (fun h => nomatch h) ?_
    refine G.eqw v_th ?_
    refine g_aload_n (i := 0) (pc := 33) dX4_append_33 rfl rfl ?_
    refine g_getf (pc := 34) f_X4_34 dX4_append_34 (c_79) rfl ?_
    refine G.eqS (v' := vI (1)) rfl ?_
    refine g_z_le (tgt := 42) (pc := 37) dX4_append_37 (by omega) (by decide) (fun c37 => absurd c37 (by omega)) (fun c37 => ?_)
    refine g_iconst (pc := 40) dX4_append_40 ?_
    refine g_iret (pc := 41) rfl dX4_append_41 (fun h => h) ?_
    exact df_1 (k := 1) (by unfold xn_app; rw [if_pos (by omega)]) (by decide) (nw rfl)
set_option maxRecDepth 20000 in
set_option maxHeartbeats 300000 in
theorem t_X4_clearText {κ : KT} {ν : NT} {o : Nat → Int} {al : Bool} : GM M_X4_clearText al [vR 79] (cW κ (dE ν) o) 0 0 (dt (some (vI (n_tl ν))) (cW κ (dE (n_setth (n_settl ν 0) 0)) o)) := by
  show G _ none _ _ 0 [some (vR 79), none] [] _ _ _ _
  refine g_aload_n (i := 0) (pc := 0) dX4_clearText_0 rfl rfl ?_
  refine g_iconst (pc := 1) dX4_clearText_1 ?_
  refine g_put (pc := 2) ft_X4_34 dX4_clearText_2 (c_79) (Nat.le_of_ble_eq_true rfl) (fun _ => rfl) (fun _ => rfl) (fun h => nomatch h) ?_
  refine G.eqw v_th ?_
  refine g_aload_n (i := 0) (pc := 5) dX4_clearText_5 rfl rfl ?_
  refine g_getf (pc := 6) f_X4_124 dX4_clearText_6 (c_79) rfl ?_
  refine G.eqS (v' := vI ((n_tl ν))) rfl ?_
  refine g_istore_n (i := 1) (pc := 9) dX4_clearText_9 rfl (by decide) rfl ?_
  simp only [List.set_cons_succ, List.set_cons_zero]
  refine g_aload_n (i := 0) (pc := 10) dX4_clearText_10 rfl rfl ?_
  refine g_iconst (pc := 11) dX4_clearText_11 ?_
  refine g_put (pc := 12) ft_X4_124 dX4_clearText_12 (c_79) (Nat.le_of_ble_eq_true rfl) (fun _ => rfl) (fun _ => rfl) (fun h => nomatch h) ?_
  refine G.eqw v_tl ?_
  refine g_iload_n (i := 1) (pc := 15) dX4_clearText_15 rfl rfl ?_
  refine g_iret (pc := 16) rfl dX4_clearText_16 (fun h => h) ?_
  exact dt_i rfl (nw rfl)
set_option maxRecDepth 20000 in
set_option maxHeartbeats 300000 in
theorem t_X4_user {κ : KT} {ν : NT} {o : Nat → Int} {al : Bool} (hN : NInv ν) {f i : Int} (h_f : -2147483648 ≤ f ∧ f < 2147483648) (h_i : -2147483648 ≤ i ∧ i < 2147483648) : GM M_X4_user al [vR 79, vI f, vI i] (cW κ (dE ν) o) 0 0 (dt (some (vI (nV (xc_us f i) (uat (n_st ν) f i)))) (cW κ (dE (nR ν (xc_us f i) (ν))) o)) := by
  show G _ none _ _ 0 [some (vR 79), some (vI f), some (vI i), none, none, none] [] _ _ _ _
  have hi := hN.1
  have hr := hN.2.1
  refine g_aload_n (i := 0) (pc := 0) dX4_user_0 rfl rfl ?_
  refine g_iload_n (i := 1) (pc := 1) dX4_user_1 rfl rfl ?_
  refine g_iconst (pc := 2) dX4_user_2 ?_
  refine g_bipush (pc := 3) dX4_user_3 (by decide) ?_
  refine g_s3 (pc := 5) okS_X4_within rfl l_X4_38 dX4_user_5 (by decide) (by decide) (Nat.le_of_ble_eq_true rfl) (t_X4_within (by omega) (by omega) (by omega)) rfl ?_
  simp only [Option.toList, List.cons_append, List.nil_append]
  have bb := b2_rng (decide (0 ≤ f ∧ f ≤ 31))
  have b1 := b2_dec (p := 0 ≤ f ∧ f ≤ 31)
  refine g_z_ne (tgt := 15) (pc := 8) dX4_user_8 (by omega) (by decide) (fun c8 => ?_) (fun c8 => ?_)
  · skip
    refine g_iload_n (i := 2) (pc := 15) dX4_user_15 rfl rfl ?_
    refine g_z_ge (tgt := 23) (pc := 16) dX4_user_16 (by omega) (by decide) (fun c16 => ?_) (fun c16 => ?_)
    · skip
      refine g_iconst (pc := 23) dX4_user_23 ?_
      refine g_put (pc := 24) ft_X4_34 dX4_user_24 (c_79) (Nat.le_of_ble_eq_true rfl) (fun _ => rfl) (fun _ => rfl) (fun h => nomatch h) ?_
      refine G.eqw v_th ?_
      refine g_aload_n (i := 0) (pc := 27) dX4_user_27 rfl rfl ?_
      refine g_getf (pc := 28) f_X4_34 dX4_user_28 (c_79) rfl ?_
      refine G.eqS (v' := vI (0)) rfl ?_
      refine g_z_le (tgt := 36) (pc := 31) dX4_user_31 (by omega) (by decide) (fun c31 => ?_) (fun c31 => absurd c31 (by omega))
      refine g_iconst (pc := 36) dX4_user_36 ?_
      refine g_istore_n (i := 3) (pc := 37) dX4_user_37 rfl (by decide) rfl ?_
      simp only [List.set_cons_succ, List.set_cons_zero]
      refine g_iconst (pc := 38) dX4_user_38 ?_
      refine g_istore (pc := 39) dX4_user_39 (by decide) rfl ?_
      simp only [List.set_cons_succ, List.set_cons_zero]
      refine g_iconst (pc := 41) dX4_user_41 ?_
      refine g_istore (pc := 42) dX4_user_42 (by decide) rfl ?_
      simp only [List.set_cons_succ, List.set_cons_zero]
      refine lp_up (P := fun k => G M_X4_user none al al 44 [some (vR 79), some (vI f), some (vI i), some (vI (if ff (fun k => decide (s_fr (n_st ν) k = f) && decide (ct (fun j => decide (s_fr (n_st ν) j = f)) k = i)) k = -1 then -1 else 100 * (ff (fun k => decide (s_fr (n_st ν) k = f) && decide (ct (fun j => decide (s_fr (n_st ν) j = f)) k = i)) k / 16) + ff (fun k => decide (s_fr (n_st ν) k = f) && decide (ct (fun j => decide (s_fr (n_st ν) j = f)) k = i)) k % 16)), some (vI (ct (fun j => decide (s_fr (n_st ν) j = f)) k)), some (vI k)] [] (cW κ (dE (n_setth ν 0)) o) 0 0 (dt (some (vI (nV (xc_us f i) (uat (n_st ν) f i)))) (cW κ (dE (nR ν (xc_us f i) (ν))) o))) 64 ?_ ?_ 0 (Nat.zero_le _)
      · show G _ _ _ _ _ _ _ _ _ _ _
        refine g_iload (pc := 44) dX4_user_44 rfl ?_
        refine g_bipush (pc := 46) dX4_user_46 (by decide) ?_
        refine g_c_ge (tgt := 98) (pc := 48) dX4_user_48 (by omega) (by decide) (fun c48 => ?_) (fun c48 => absurd c48 (by omega))
        refine g_iload_n (i := 3) (pc := 98) dX4_user_98 rfl rfl ?_
        refine g_iret (pc := 99) rfl dX4_user_99 (fun h => h) ?_
        exact df_0 (by unfold xc_us; rw [if_neg (by omega), if_neg (by omega)]) (rfl) (nw rfl)
      · intro k hk ih
        have yc := ct_rng (fun j => decide (s_fr (n_st ν) j = f)) k
        have yf := ff_rng (fun k => decide (s_fr (n_st ν) k = f) && decide (ct (fun j => decide (s_fr (n_st ν) j = f)) k = i)) k
        show G _ _ _ _ _ _ _ _ _ _ _
        refine g_iload (pc := 44) dX4_user_44 rfl ?_
        refine g_bipush (pc := 46) dX4_user_46 (by decide) ?_
        refine g_c_ge (tgt := 98) (pc := 48) dX4_user_48 (by omega) (by decide) (fun c48 => absurd c48 (by omega)) (fun c48 => ?_)
        refine g_aload_n (i := 0) (pc := 51) dX4_user_51 rfl rfl ?_
        refine g_getf (pc := 52) f_X4_7 dX4_user_52 (c_79) rfl ?_
        refine g_iconst (pc := 55) dX4_user_55 ?_
        refine g_iload (pc := 56) dX4_user_56 rfl ?_
        refine g_iadd (pc := 58) dX4_user_58 ?_
        refine g_iald (pc := 59) dX4_user_59 (c_80) (by omega) ?_
        refine G.eqS (congrArg (fun z => vI z) ((r_fr (by omega)).trans (congrArg (s_fr (n_st ν)) (show (4 + (k : Int) - 4).toNat = k by omega)))) ?_
        have z9 := hi.1 k
        refine g_iload_n (i := 1) (pc := 60) dX4_user_60 rfl rfl ?_
        refine g_c_ne (tgt := 92) (pc := 61) dX4_user_61 (by omega) (by decide) (fun c61 => ?_) (fun c61 => ?_)
        · skip
          refine g_iinc (pc := 92) dX4_user_92 rfl (by decide) rfl ?_
          simp only [List.set_cons_succ, List.set_cons_zero]
          refine g_goto (tgt := 44) (pc := 95) dX4_user_95 (by decide) ?_
          have e1 : (ct (fun j => decide (s_fr (n_st ν) j = f)) (k + 1)) = (ct (fun j => decide (s_fr (n_st ν) j = f)) k) := ct_no (by rw [decide_eq_true_eq]; omega)
          have e2 : ff (fun k => decide (s_fr (n_st ν) k = f) && decide (ct (fun j => decide (s_fr (n_st ν) j = f)) k = i)) (k + 1) = ff (fun k => decide (s_fr (n_st ν) k = f) && decide (ct (fun j => decide (s_fr (n_st ν) j = f)) k = i)) k := by
            rw [ff]
            by_cases q : ff (fun k => decide (s_fr (n_st ν) k = f) && decide (ct (fun j => decide (s_fr (n_st ν) j = f)) k = i)) k = -1
            · rw [if_pos q, if_neg (by rw [Bool.and_eq_true, decide_eq_true_eq, decide_eq_true_eq]; omega), q]
            · rw [if_neg q]
          refine G.eqL ?_ ih
          rw [e1, e2]
          rfl
        · skip
          refine g_iload (pc := 64) dX4_user_64 rfl ?_
          refine g_iload_n (i := 2) (pc := 66) dX4_user_66 rfl rfl ?_
          refine g_c_ne (tgt := 87) (pc := 67) dX4_user_67 (by omega) (by decide) (fun c67 => ?_) (fun c67 => ?_)
          · skip
            refine g_iload_n (i := 3) (pc := 87) dX4_user_87 rfl rfl ?_
            refine g_istore_n (i := 3) (pc := 88) dX4_user_88 rfl (by decide) rfl ?_
            simp only [List.set_cons_succ, List.set_cons_zero]
            refine g_iinc (pc := 89) dX4_user_89 rfl (by decide) rfl ?_
            simp only [List.set_cons_succ, List.set_cons_zero]
            refine g_iinc (pc := 92) dX4_user_92 rfl (by decide) rfl ?_
            simp only [List.set_cons_succ, List.set_cons_zero]
            refine g_goto (tgt := 44) (pc := 95) dX4_user_95 (by decide) ?_
            have e1 : (ct (fun j => decide (s_fr (n_st ν) j = f)) (k + 1)) = (ct (fun j => decide (s_fr (n_st ν) j = f)) k) + 1 := ct_yes (by rw [decide_eq_true_eq]; omega)
            have e2 : ff (fun k => decide (s_fr (n_st ν) k = f) && decide (ct (fun j => decide (s_fr (n_st ν) j = f)) k = i)) (k + 1) = ff (fun k => decide (s_fr (n_st ν) k = f) && decide (ct (fun j => decide (s_fr (n_st ν) j = f)) k = i)) k := by
              rw [ff]
              by_cases q : ff (fun k => decide (s_fr (n_st ν) k = f) && decide (ct (fun j => decide (s_fr (n_st ν) j = f)) k = i)) k = -1
              · rw [if_pos q, if_neg (by rw [Bool.and_eq_true, decide_eq_true_eq, decide_eq_true_eq]; omega), q]
              · rw [if_neg q]
            refine G.eqL ?_ ih
            rw [e1, e2]
            rfl
          · skip
            refine g_bipush (pc := 70) dX4_user_70 (by decide) ?_
            refine g_iload (pc := 72) dX4_user_72 rfl ?_
            refine g_bipush (pc := 74) dX4_user_74 (by decide) ?_
            refine g_idiv (pc := 76) dX4_user_76 (by omega) (by omega) ?_
            refine G.eqS (congrArg (fun z => vI z) (n_dv k 16)) ?_
            refine g_imul (pc := 77) dX4_user_77 ?_
            refine g_iload (pc := 78) dX4_user_78 rfl ?_
            refine g_bipush (pc := 80) dX4_user_80 (by decide) ?_
            refine g_irem (pc := 82) dX4_user_82 (by omega) (by omega) ?_
            refine G.eqS (congrArg (fun z => vI z) (n_md k 16)) ?_
            refine g_iadd (pc := 83) dX4_user_83 ?_
            refine g_goto (tgt := 88) (pc := 84) dX4_user_84 (by decide) ?_
            refine g_istore_n (i := 3) (pc := 88) dX4_user_88 rfl (by decide) rfl ?_
            simp only [List.set_cons_succ, List.set_cons_zero]
            refine g_iinc (pc := 89) dX4_user_89 rfl (by decide) rfl ?_
            simp only [List.set_cons_succ, List.set_cons_zero]
            refine g_iinc (pc := 92) dX4_user_92 rfl (by decide) rfl ?_
            simp only [List.set_cons_succ, List.set_cons_zero]
            refine g_goto (tgt := 44) (pc := 95) dX4_user_95 (by decide) ?_
            have e1 : (ct (fun j => decide (s_fr (n_st ν) j = f)) (k + 1)) = (ct (fun j => decide (s_fr (n_st ν) j = f)) k) + 1 := ct_yes (by rw [decide_eq_true_eq]; omega)
            have e2 : ff (fun k => decide (s_fr (n_st ν) k = f) && decide (ct (fun j => decide (s_fr (n_st ν) j = f)) k = i)) (k + 1) = (k : Int) := ff_some (by rw [Bool.and_eq_true, decide_eq_true_eq, decide_eq_true_eq]; omega) (fun j hj => by
              rw [Bool.and_eq_true, decide_eq_true_eq, decide_eq_true_eq]
              rintro ⟨q1, q2⟩
              have q3 := ct_lt (p := fun j => decide (s_fr (n_st ν) j = f)) hj (by rw [decide_eq_true_eq]; exact q1)
              omega) (by omega)
            refine G.eqL ?_ ih
            rw [e1, e2, if_neg (by omega)]
            rfl
    · skip
      refine g_iconst (pc := 19) dX4_user_19 ?_
      refine g_goto (tgt := 24) (pc := 20) dX4_user_20 (by decide) ?_
      refine g_put (pc := 24) ft_X4_34 dX4_user_24 (c_79) (Nat.le_of_ble_eq_true rfl) (fun _ => rfl) (fun _ => rfl) (fun h => nomatch h) ?_
      refine G.eqw v_th ?_
      refine g_aload_n (i := 0) (pc := 27) dX4_user_27 rfl rfl ?_
      refine g_getf (pc := 28) f_X4_34 dX4_user_28 (c_79) rfl ?_
      refine G.eqS (v' := vI (2)) rfl ?_
      refine g_z_le (tgt := 36) (pc := 31) dX4_user_31 (by omega) (by decide) (fun c31 => absurd c31 (by omega)) (fun c31 => ?_)
      refine g_iconst (pc := 34) dX4_user_34 ?_
      refine g_iret (pc := 35) rfl dX4_user_35 (fun h => h) ?_
      exact df_1 (k := 2) (by unfold xc_us; rw [if_neg (by omega), if_pos (by omega)]) (by decide) (nw rfl)
  · skip
    refine g_iconst (pc := 11) dX4_user_11 ?_
    refine g_goto (tgt := 24) (pc := 12) dX4_user_12 (by decide) ?_
    refine g_put (pc := 24) ft_X4_34 dX4_user_24 (c_79) (Nat.le_of_ble_eq_true rfl) (fun _ => rfl) (fun _ => rfl) (fun h => nomatch h) ?_
    refine G.eqw v_th ?_
    refine g_aload_n (i := 0) (pc := 27) dX4_user_27 rfl rfl ?_
    refine g_getf (pc := 28) f_X4_34 dX4_user_28 (c_79) rfl ?_
    refine G.eqS (v' := vI (1)) rfl ?_
    refine g_z_le (tgt := 36) (pc := 31) dX4_user_31 (by omega) (by decide) (fun c31 => absurd c31 (by omega)) (fun c31 => ?_)
    refine g_iconst (pc := 34) dX4_user_34 ?_
    refine g_iret (pc := 35) rfl dX4_user_35 (fun h => h) ?_
    exact df_1 (k := 1) (by unfold xc_us; rw [if_pos (by omega)]) (by decide) (nw rfl)
set_option maxRecDepth 20000 in
set_option maxHeartbeats 300000 in
theorem t_X4_about {κ : KT} {ν : NT} {o : Nat → Int} {al : Bool} (hN : NInv ν) {x : Int} (h_x : -2147483648 ≤ x ∧ x < 2147483648) : GM M_X4_about al [vR 79, vI x] (cW κ (dE ν) o) 0 0 (dt (some (vI (nV (xc_ab x) (ab (n_st ν) x)))) (cW κ (dE (nR ν (xc_ab x) (ν))) o)) := by
  show G _ none _ _ 0 [some (vR 79), some (vI x), none, none, none, none] [] _ _ _ _
  have hi := hN.1
  have hr := hN.2.1
  refine g_aload_n (i := 0) (pc := 0) dX4_about_0 rfl rfl ?_
  refine g_iload_n (i := 1) (pc := 1) dX4_about_1 rfl rfl ?_
  refine g_iconst (pc := 2) dX4_about_2 ?_
  refine g_bipush (pc := 3) dX4_about_3 (by decide) ?_
  refine g_s3 (pc := 5) okS_X4_within rfl l_X4_38 dX4_about_5 (by decide) (by decide) (Nat.le_of_ble_eq_true rfl) (t_X4_within (by omega) (by omega) (by omega)) rfl ?_
  simp only [Option.toList, List.cons_append, List.nil_append]
  have bb := b2_rng (decide (0 ≤ x ∧ x ≤ 10))
  have b1 := b2_dec (p := 0 ≤ x ∧ x ≤ 10)
  refine g_z_eq (tgt := 15) (pc := 8) dX4_about_8 (by omega) (by decide) (fun c8 => ?_) (fun c8 => ?_)
  · skip
    refine g_iconst (pc := 15) dX4_about_15 ?_
    refine g_put (pc := 16) ft_X4_34 dX4_about_16 (c_79) (Nat.le_of_ble_eq_true rfl) (fun _ => rfl) (fun _ => rfl) (fun h => nomatch h) ?_
    refine G.eqw v_th ?_
    refine g_iconst (pc := 19) dX4_about_19 ?_
    refine g_istore_n (i := 2) (pc := 20) dX4_about_20 rfl (by decide) rfl ?_
    simp only [List.set_cons_succ, List.set_cons_zero]
    refine g_iconst (pc := 21) dX4_about_21 ?_
    refine g_istore_n (i := 3) (pc := 22) dX4_about_22 rfl (by decide) rfl ?_
    simp only [List.set_cons_succ, List.set_cons_zero]
    refine g_iconst (pc := 23) dX4_about_23 ?_
    refine g_istore (pc := 24) dX4_about_24 (by decide) rfl ?_
    simp only [List.set_cons_succ, List.set_cons_zero]
    refine lp_up (P := fun k => G M_X4_about none al al 26 [some (vR 79), some (vI x), some (vI (ct (fun k => decide (s_bg (n_st ν) k = 1)) k)), some (vI (ct (fun k => wid (n_st ν) ((k / 4 : Nat) : Int) ((k % 4 : Nat) : Int)) k)), some (vI k), none] [] (cW κ (dE (n_setth ν 1)) o) 0 0 (dt (some (vI (nV (xc_ab x) (ab (n_st ν) x)))) (cW κ (dE (nR ν (xc_ab x) (ν))) o))) 16 ?_ ?_ 0 (Nat.zero_le _)
    · show G _ _ _ _ _ _ _ _ _ _ _
      refine g_iload (pc := 26) dX4_about_26 rfl ?_
      refine g_bipush (pc := 28) dX4_about_28 (by decide) ?_
      refine g_c_ge (tgt := 75) (pc := 30) dX4_about_30 (by omega) (by decide) (fun c30 => ?_) (fun c30 => absurd c30 (by omega))
      refine g_iconst (pc := 75) dX4_about_75 ?_
      refine g_istore (pc := 76) dX4_about_76 (by decide) rfl ?_
      simp only [List.set_cons_succ, List.set_cons_zero]
      refine g_iconst (pc := 78) dX4_about_78 ?_
      refine g_istore (pc := 79) dX4_about_79 (by decide) rfl ?_
      simp only [List.set_cons_succ, List.set_cons_zero]
      refine lp_up (P := fun k => G M_X4_about none al al 81 [some (vR 79), some (vI x), some (vI (nbg (n_st ν))), some (vI (nwid (n_st ν))), some (vI (ct (fun f => sh (n_st ν) f) k)), some (vI k)] [] (cW κ (dE (n_setth ν 1)) o) 0 0 (dt (some (vI (nV (xc_ab x) (ab (n_st ν) x)))) (cW κ (dE (nR ν (xc_ab x) (ν))) o))) 32 ?_ ?_ 0 (Nat.zero_le _)
      · show G _ _ _ _ _ _ _ _ _ _ _
        refine g_iload (pc := 81) dX4_about_81 rfl ?_
        refine g_bipush (pc := 83) dX4_about_83 (by decide) ?_
        refine g_c_ge (tgt := 113) (pc := 85) dX4_about_85 (by omega) (by decide) (fun c85 => ?_) (fun c85 => absurd c85 (by omega))
        refine g_iload_n (i := 1) (pc := 113) dX4_about_113 rfl rfl ?_
        have yb := nbg_rng (n_st ν)
        have yw := nwid_rng (n_st ν)
        have ys := nsf_rng (n_st ν)
        refine g_tsOut (tgt := 237) (pc := 114) dX4_about_114 (by omega) (by omega) (by decide) ?_
        refine g_iconst (pc := 237) dX4_about_237 ?_
        refine g_iret (pc := 238) rfl dX4_about_238 (fun h => h) ?_
        exact df_1 (k := 1) (by unfold xc_ab; rw [if_neg (by omega)]) (by decide) (nw rfl)
      · intro k hk ih
        have ys := ct_rng (fun f => sh (n_st ν) f) k
        show G _ _ _ _ _ _ _ _ _ _ _
        refine g_iload (pc := 81) dX4_about_81 rfl ?_
        refine g_bipush (pc := 83) dX4_about_83 (by decide) ?_
        refine g_c_ge (tgt := 113) (pc := 85) dX4_about_85 (by omega) (by decide) (fun c85 => absurd c85 (by omega)) (fun c85 => ?_)
        refine g_iload (pc := 88) dX4_about_88 rfl ?_
        refine g_aload_n (i := 0) (pc := 90) dX4_about_90 rfl rfl ?_
        refine g_iload (pc := 91) dX4_about_91 rfl ?_
        refine g_v1 (pc := 93) okV_X4_isShared rfl l_X4_57 dX4_about_93 (c_79) hc_4 (by decide) (by decide) (Nat.le_of_ble_eq_true rfl) (t_X4_isShared (ν := n_setth (ν) (1)) hi (by omega)) rfl ?_
        simp only [Option.toList, List.cons_append, List.nil_append]
        refine G.eqS (v' := vI (b2 (sh (n_st ν) ((k : Int))))) rfl ?_
        have bb := b2_rng (sh (n_st ν) ((k : Int)))
        refine g_z_eq (tgt := 103) (pc := 96) dX4_about_96 (by omega) (by decide) (fun c96 => ?_) (fun c96 => ?_)
        · skip
          refine g_iconst (pc := 103) dX4_about_103 ?_
          refine g_iadd (pc := 104) dX4_about_104 ?_
          refine g_istore (pc := 105) dX4_about_105 (by decide) rfl ?_
          simp only [List.set_cons_succ, List.set_cons_zero]
          refine g_iinc (pc := 107) dX4_about_107 rfl (by decide) rfl ?_
          simp only [List.set_cons_succ, List.set_cons_zero]
          refine g_goto (tgt := 81) (pc := 110) dX4_about_110 (by decide) ?_
          refine G.eqL (congrArg (fun z => [some (vR 79), some (vI x), some (vI (nbg (n_st ν))), some (vI (nwid (n_st ν))), some (vI z), some (vI ((k : Int) + 1))]) ?_) ih
          exact (Int.add_zero _).trans (ct_no (b2_0.mp (by omega))).symm
        · skip
          refine g_iconst (pc := 99) dX4_about_99 ?_
          refine g_goto (tgt := 104) (pc := 100) dX4_about_100 (by decide) ?_
          refine g_iadd (pc := 104) dX4_about_104 ?_
          refine g_istore (pc := 105) dX4_about_105 (by decide) rfl ?_
          simp only [List.set_cons_succ, List.set_cons_zero]
          refine g_iinc (pc := 107) dX4_about_107 rfl (by decide) rfl ?_
          simp only [List.set_cons_succ, List.set_cons_zero]
          refine g_goto (tgt := 81) (pc := 110) dX4_about_110 (by decide) ?_
          refine G.eqL (congrArg (fun z => [some (vR 79), some (vI x), some (vI (nbg (n_st ν))), some (vI (nwid (n_st ν))), some (vI z), some (vI ((k : Int) + 1))]) ?_) ih
          exact (ct_yes (b2_1.mp (by omega))).symm
    · intro k hk ih
      have yb := ct_rng (fun k => decide (s_bg (n_st ν) k = 1)) k
      have yw := ct_rng (fun k => wid (n_st ν) ((k / 4 : Nat) : Int) ((k % 4 : Nat) : Int)) k
      show G _ _ _ _ _ _ _ _ _ _ _
      refine g_iload (pc := 26) dX4_about_26 rfl ?_
      refine g_bipush (pc := 28) dX4_about_28 (by decide) ?_
      refine g_c_ge (tgt := 75) (pc := 30) dX4_about_30 (by omega) (by decide) (fun c30 => absurd c30 (by omega)) (fun c30 => ?_)
      refine g_iload_n (i := 2) (pc := 33) dX4_about_33 rfl rfl ?_
      refine g_aload_n (i := 0) (pc := 34) dX4_about_34 rfl rfl ?_
      refine g_getf (pc := 35) f_X4_7 dX4_about_35 (c_79) rfl ?_
      refine g_bipush (pc := 38) dX4_about_38 (by decide) ?_
      refine g_iload (pc := 40) dX4_about_40 rfl ?_
      refine g_iadd (pc := 42) dX4_about_42 ?_
      refine g_iald (pc := 43) dX4_about_43 (c_80) (by omega) ?_
      refine G.eqS (congrArg (fun z => vI z) ((r_bg (by omega)).trans (congrArg (s_bg (n_st ν)) (show (68 + (k : Int) - 68).toNat = k by omega)))) ?_
      have z9 := hi.2.2.1 k
      refine g_iadd (pc := 44) dX4_about_44 ?_
      refine g_istore_n (i := 2) (pc := 45) dX4_about_45 rfl (by decide) rfl ?_
      simp only [List.set_cons_succ, List.set_cons_zero]
      refine g_iload_n (i := 3) (pc := 46) dX4_about_46 rfl rfl ?_
      refine g_aload_n (i := 0) (pc := 47) dX4_about_47 rfl rfl ?_
      refine g_iload (pc := 48) dX4_about_48 rfl ?_
      refine g_iconst (pc := 50) dX4_about_50 ?_
      refine g_idiv (pc := 51) dX4_about_51 (by omega) (by omega) ?_
      refine G.eqS (congrArg (fun z => vI z) (n_dv k 4)) ?_
      refine g_iload (pc := 52) dX4_about_52 rfl ?_
      refine g_iconst (pc := 54) dX4_about_54 ?_
      refine g_irem (pc := 55) dX4_about_55 (by omega) (by omega) ?_
      refine G.eqS (congrArg (fun z => vI z) (n_md k 4)) ?_
      refine g_v2 (pc := 56) okV_X4_isWidow rfl l_X4_160 dX4_about_56 (c_79) hc_4 (by decide) (by decide) (Nat.le_of_ble_eq_true rfl) (t_X4_isWidow (ν := n_setth (ν) (1)) hi (by omega) (by omega)) rfl ?_
      simp only [Option.toList, List.cons_append, List.nil_append]
      refine G.eqS (v' := vI (b2 (wid (n_st ν) (((k / 4 : Nat) : Int)) (((k % 4 : Nat) : Int))))) rfl ?_
      have bb := b2_rng (wid (n_st ν) (((k / 4 : Nat) : Int)) (((k % 4 : Nat) : Int)))
      refine g_z_eq (tgt := 66) (pc := 59) dX4_about_59 (by omega) (by decide) (fun c59 => ?_) (fun c59 => ?_)
      · skip
        refine g_iconst (pc := 66) dX4_about_66 ?_
        refine g_iadd (pc := 67) dX4_about_67 ?_
        refine g_istore_n (i := 3) (pc := 68) dX4_about_68 rfl (by decide) rfl ?_
        simp only [List.set_cons_succ, List.set_cons_zero]
        refine g_iinc (pc := 69) dX4_about_69 rfl (by decide) rfl ?_
        simp only [List.set_cons_succ, List.set_cons_zero]
        refine g_goto (tgt := 26) (pc := 72) dX4_about_72 (by decide) ?_
        have e1 : (ct (fun k => decide (s_bg (n_st ν) k = 1)) (k + 1)) = (ct (fun k => decide (s_bg (n_st ν) k = 1)) k) + s_bg (n_st ν) k := by
          rcases z9 with q | q
          · rw [ct_no (by rw [decide_eq_true_eq]; omega), q, Int.add_zero]
          · rw [ct_yes (by rw [decide_eq_true_eq]; exact q), q]
        have e2 : (ct (fun k => wid (n_st ν) ((k / 4 : Nat) : Int) ((k % 4 : Nat) : Int)) (k + 1)) = (ct (fun k => wid (n_st ν) ((k / 4 : Nat) : Int) ((k % 4 : Nat) : Int)) k) + 0 := (ct_no (b2_0.mp (by omega))).trans (Int.add_zero _).symm
        refine G.eqL ?_ ih
        rw [e1, e2]
        rfl
      · skip
        refine g_iconst (pc := 62) dX4_about_62 ?_
        refine g_goto (tgt := 67) (pc := 63) dX4_about_63 (by decide) ?_
        refine g_iadd (pc := 67) dX4_about_67 ?_
        refine g_istore_n (i := 3) (pc := 68) dX4_about_68 rfl (by decide) rfl ?_
        simp only [List.set_cons_succ, List.set_cons_zero]
        refine g_iinc (pc := 69) dX4_about_69 rfl (by decide) rfl ?_
        simp only [List.set_cons_succ, List.set_cons_zero]
        refine g_goto (tgt := 26) (pc := 72) dX4_about_72 (by decide) ?_
        have e1 : (ct (fun k => decide (s_bg (n_st ν) k = 1)) (k + 1)) = (ct (fun k => decide (s_bg (n_st ν) k = 1)) k) + s_bg (n_st ν) k := by
          rcases z9 with q | q
          · rw [ct_no (by rw [decide_eq_true_eq]; omega), q, Int.add_zero]
          · rw [ct_yes (by rw [decide_eq_true_eq]; exact q), q]
        have e2 : (ct (fun k => wid (n_st ν) ((k / 4 : Nat) : Int) ((k % 4 : Nat) : Int)) (k + 1)) = (ct (fun k => wid (n_st ν) ((k / 4 : Nat) : Int) ((k % 4 : Nat) : Int)) k) + 1 := ct_yes (b2_1.mp (by omega))
        refine G.eqL ?_ ih
        rw [e1, e2]
        rfl
  · skip
    refine g_iconst (pc := 11) dX4_about_11 ?_
    refine g_goto (tgt := 16) (pc := 12) dX4_about_12 (by decide) ?_
    refine g_put (pc := 16) ft_X4_34 dX4_about_16 (c_79) (Nat.le_of_ble_eq_true rfl) (fun _ => rfl) (fun _ => rfl) (fun h => nomatch h) ?_
    refine G.eqw v_th ?_
    refine g_iconst (pc := 19) dX4_about_19 ?_
    refine g_istore_n (i := 2) (pc := 20) dX4_about_20 rfl (by decide) rfl ?_
    simp only [List.set_cons_succ, List.set_cons_zero]
    refine g_iconst (pc := 21) dX4_about_21 ?_
    refine g_istore_n (i := 3) (pc := 22) dX4_about_22 rfl (by decide) rfl ?_
    simp only [List.set_cons_succ, List.set_cons_zero]
    refine g_iconst (pc := 23) dX4_about_23 ?_
    refine g_istore (pc := 24) dX4_about_24 (by decide) rfl ?_
    simp only [List.set_cons_succ, List.set_cons_zero]
    refine lp_up (P := fun k => G M_X4_about none al al 26 [some (vR 79), some (vI x), some (vI (ct (fun k => decide (s_bg (n_st ν) k = 1)) k)), some (vI (ct (fun k => wid (n_st ν) ((k / 4 : Nat) : Int) ((k % 4 : Nat) : Int)) k)), some (vI k), none] [] (cW κ (dE (n_setth ν 0)) o) 0 0 (dt (some (vI (nV (xc_ab x) (ab (n_st ν) x)))) (cW κ (dE (nR ν (xc_ab x) (ν))) o))) 16 ?_ ?_ 0 (Nat.zero_le _)
    · show G _ _ _ _ _ _ _ _ _ _ _
      refine g_iload (pc := 26) dX4_about_26 rfl ?_
      refine g_bipush (pc := 28) dX4_about_28 (by decide) ?_
      refine g_c_ge (tgt := 75) (pc := 30) dX4_about_30 (by omega) (by decide) (fun c30 => ?_) (fun c30 => absurd c30 (by omega))
      refine g_iconst (pc := 75) dX4_about_75 ?_
      refine g_istore (pc := 76) dX4_about_76 (by decide) rfl ?_
      simp only [List.set_cons_succ, List.set_cons_zero]
      refine g_iconst (pc := 78) dX4_about_78 ?_
      refine g_istore (pc := 79) dX4_about_79 (by decide) rfl ?_
      simp only [List.set_cons_succ, List.set_cons_zero]
      refine lp_up (P := fun k => G M_X4_about none al al 81 [some (vR 79), some (vI x), some (vI (nbg (n_st ν))), some (vI (nwid (n_st ν))), some (vI (ct (fun f => sh (n_st ν) f) k)), some (vI k)] [] (cW κ (dE (n_setth ν 0)) o) 0 0 (dt (some (vI (nV (xc_ab x) (ab (n_st ν) x)))) (cW κ (dE (nR ν (xc_ab x) (ν))) o))) 32 ?_ ?_ 0 (Nat.zero_le _)
      · show G _ _ _ _ _ _ _ _ _ _ _
        refine g_iload (pc := 81) dX4_about_81 rfl ?_
        refine g_bipush (pc := 83) dX4_about_83 (by decide) ?_
        refine g_c_ge (tgt := 113) (pc := 85) dX4_about_85 (by omega) (by decide) (fun c85 => ?_) (fun c85 => absurd c85 (by omega))
        refine g_iload_n (i := 1) (pc := 113) dX4_about_113 rfl rfl ?_
        have yb := nbg_rng (n_st ν)
        have yw := nwid_rng (n_st ν)
        have ys := nsf_rng (n_st ν)
        by_cases sw114 : 0 ≤ x ∧ x ≤ 10
        · rcases (by omega : x = 0 ∨ x = 1 ∨ x = 2 ∨ x = 3 ∨ x = 4 ∨ x = 5 ∨ x = 6 ∨ x = 7 ∨ x = 8 ∨ x = 9 ∨ x = 10) with ew114 | ew114 | ew114 | ew114 | ew114 | ew114 | ew114 | ew114 | ew114 | ew114 | ew114
          · refine g_tsIn (tgt := 172) (pc := 114) dX4_about_114 (by omega) (by omega) (by omega) (by rw [ew114]; rfl) (by decide) ?_
            refine g_aload_n (i := 0) (pc := 172) dX4_about_172 rfl rfl ?_
            refine g_getf (pc := 173) f_X4_7 dX4_about_173 (c_79) rfl ?_
            refine g_iconst (pc := 176) dX4_about_176 ?_
            refine g_iald (pc := 177) dX4_about_177 (c_80) (by omega) ?_
            refine G.eqS (congrArg (fun z => vI z) (show _ = s_ex (n_st ν) 0 from r_ex (σ := n_st ν) (i := 0) (by omega))) ?_
            refine g_iconst (pc := 178) dX4_about_178 ?_
            refine g_aload_n (i := 0) (pc := 179) dX4_about_179 rfl rfl ?_
            refine g_getf (pc := 180) f_X4_7 dX4_about_180 (c_79) rfl ?_
            refine g_iconst (pc := 183) dX4_about_183 ?_
            refine g_iald (pc := 184) dX4_about_184 (c_80) (by omega) ?_
            refine G.eqS (congrArg (fun z => vI z) (show _ = s_ex (n_st ν) 1 from r_ex (σ := n_st ν) (i := 1) (by omega))) ?_
            refine g_imul (pc := 185) dX4_about_185 ?_
            refine g_iadd (pc := 186) dX4_about_186 ?_
            refine g_iconst (pc := 187) dX4_about_187 ?_
            refine g_aload_n (i := 0) (pc := 188) dX4_about_188 rfl rfl ?_
            refine g_getf (pc := 189) f_X4_7 dX4_about_189 (c_79) rfl ?_
            refine g_iconst (pc := 192) dX4_about_192 ?_
            refine g_iald (pc := 193) dX4_about_193 (c_80) (by omega) ?_
            refine G.eqS (congrArg (fun z => vI z) (show _ = s_ex (n_st ν) 2 from r_ex (σ := n_st ν) (i := 2) (by omega))) ?_
            refine g_imul (pc := 194) dX4_about_194 ?_
            refine g_iadd (pc := 195) dX4_about_195 ?_
            refine g_bipush (pc := 196) dX4_about_196 (by decide) ?_
            refine g_aload_n (i := 0) (pc := 198) dX4_about_198 rfl rfl ?_
            refine g_getf (pc := 199) f_X4_7 dX4_about_199 (c_79) rfl ?_
            refine g_iconst (pc := 202) dX4_about_202 ?_
            refine g_iald (pc := 203) dX4_about_203 (c_80) (by omega) ?_
            refine G.eqS (congrArg (fun z => vI z) (show _ = s_ex (n_st ν) 3 from r_ex (σ := n_st ν) (i := 3) (by omega))) ?_
            refine g_imul (pc := 204) dX4_about_204 ?_
            refine g_iadd (pc := 205) dX4_about_205 ?_
            refine g_iret (pc := 206) rfl dX4_about_206 (fun h => h) ?_
            exact df_0 (by unfold xc_ab; rw [if_pos (by omega)]) (by unfold ab; rw [if_pos (by omega)]; simp only [bsum]; omega) (nw rfl)
          · refine g_tsIn (tgt := 207) (pc := 114) dX4_about_114 (by omega) (by omega) (by omega) (by rw [ew114]; rfl) (by decide) ?_
            refine g_aload_n (i := 0) (pc := 207) dX4_about_207 rfl rfl ?_
            refine g_v0 (pc := 208) okV_X4_freeFrames rfl l_X4_103 dX4_about_208 (c_79) hc_4 (by decide) (by decide) (Nat.le_of_ble_eq_true rfl) (t_X4_freeFrames (ν := n_setth (ν) (0)) hi) rfl ?_
            simp only [Option.toList, List.cons_append, List.nil_append]
            refine G.eqS (v' := vI (nff (n_st ν))) rfl ?_
            have bb := nff_rng (n_st ν)
            refine g_iret (pc := 211) rfl dX4_about_211 (fun h => h) ?_
            exact df_0 (by unfold xc_ab; rw [if_pos (by omega)]) (by unfold ab; rw [if_neg (by omega), if_pos (by omega)]) (nw rfl)
          · refine g_tsIn (tgt := 212) (pc := 114) dX4_about_114 (by omega) (by omega) (by omega) (by rw [ew114]; rfl) (by decide) ?_
            refine g_aload_n (i := 0) (pc := 212) dX4_about_212 rfl rfl ?_
            refine g_v0 (pc := 213) okV_X4_freeRuns rfl l_X4_163 dX4_about_213 (c_79) hc_4 (by decide) (by decide) (Nat.le_of_ble_eq_true rfl) (t_X4_freeRuns (ν := n_setth (ν) (0)) hi) rfl ?_
            simp only [Option.toList, List.cons_append, List.nil_append]
            refine G.eqS (v' := vI (nfr (n_st ν))) rfl ?_
            have bb := nfr_rng (n_st ν)
            refine g_iret (pc := 216) rfl dX4_about_216 (fun h => h) ?_
            exact df_0 (by unfold xc_ab; rw [if_pos (by omega)]) (by unfold ab; rw [if_neg (by omega), if_neg (by omega), if_pos (by omega)]) (nw rfl)
          · refine g_tsIn (tgt := 217) (pc := 114) dX4_about_114 (by omega) (by omega) (by omega) (by rw [ew114]; rfl) (by decide) ?_
            refine g_iload_n (i := 2) (pc := 217) dX4_about_217 rfl rfl ?_
            refine g_iret (pc := 218) rfl dX4_about_218 (fun h => h) ?_
            exact df_0 (by unfold xc_ab; rw [if_pos (by omega)]) (by unfold ab; rw [if_neg (by omega), if_neg (by omega), if_neg (by omega), if_pos (by omega)]) (nw rfl)
          · refine g_tsIn (tgt := 219) (pc := 114) dX4_about_114 (by omega) (by omega) (by omega) (by rw [ew114]; rfl) (by decide) ?_
            refine g_iload_n (i := 3) (pc := 219) dX4_about_219 rfl rfl ?_
            refine g_iret (pc := 220) rfl dX4_about_220 (fun h => h) ?_
            exact df_0 (by unfold xc_ab; rw [if_pos (by omega)]) (by unfold ab; rw [if_neg (by omega), if_neg (by omega), if_neg (by omega), if_neg (by omega), if_pos (by omega)]) (nw rfl)
          · refine g_tsIn (tgt := 221) (pc := 114) dX4_about_114 (by omega) (by omega) (by omega) (by rw [ew114]; rfl) (by decide) ?_
            refine g_iload (pc := 221) dX4_about_221 rfl ?_
            refine g_iret (pc := 223) rfl dX4_about_223 (fun h => h) ?_
            exact df_0 (by unfold xc_ab; rw [if_pos (by omega)]) (by unfold ab; rw [if_neg (by omega), if_neg (by omega), if_neg (by omega), if_neg (by omega), if_neg (by omega), if_pos (by omega)]; rfl) (nw rfl)
          · refine g_tsIn (tgt := 224) (pc := 114) dX4_about_114 (by omega) (by omega) (by omega) (by rw [ew114]; rfl) (by decide) ?_
            refine g_aload_n (i := 0) (pc := 224) dX4_about_224 rfl rfl ?_
            refine g_getf (pc := 225) f_X4_7 dX4_about_225 (c_79) rfl ?_
            refine g_bipush (pc := 228) dX4_about_228 (by decide) ?_
            refine g_iload_n (i := 1) (pc := 230) dX4_about_230 rfl rfl ?_
            refine g_iadd (pc := 231) dX4_about_231 ?_
            refine g_bipush (pc := 232) dX4_about_232 (by decide) ?_
            refine g_isub (pc := 234) dX4_about_234 ?_
            refine g_iald (pc := 235) dX4_about_235 (c_80) (by omega) ?_
            refine g_iret (pc := 236) rfl dX4_about_236 (fun h => h) ?_
            exact df_0 (by unfold xc_ab; rw [if_pos (by omega)]) (by rw [ew114]; rfl) (nw rfl)
          · refine g_tsIn (tgt := 224) (pc := 114) dX4_about_114 (by omega) (by omega) (by omega) (by rw [ew114]; rfl) (by decide) ?_
            refine g_aload_n (i := 0) (pc := 224) dX4_about_224 rfl rfl ?_
            refine g_getf (pc := 225) f_X4_7 dX4_about_225 (c_79) rfl ?_
            refine g_bipush (pc := 228) dX4_about_228 (by decide) ?_
            refine g_iload_n (i := 1) (pc := 230) dX4_about_230 rfl rfl ?_
            refine g_iadd (pc := 231) dX4_about_231 ?_
            refine g_bipush (pc := 232) dX4_about_232 (by decide) ?_
            refine g_isub (pc := 234) dX4_about_234 ?_
            refine g_iald (pc := 235) dX4_about_235 (c_80) (by omega) ?_
            refine g_iret (pc := 236) rfl dX4_about_236 (fun h => h) ?_
            exact df_0 (by unfold xc_ab; rw [if_pos (by omega)]) (by rw [ew114]; rfl) (nw rfl)
          · refine g_tsIn (tgt := 224) (pc := 114) dX4_about_114 (by omega) (by omega) (by omega) (by rw [ew114]; rfl) (by decide) ?_
            refine g_aload_n (i := 0) (pc := 224) dX4_about_224 rfl rfl ?_
            refine g_getf (pc := 225) f_X4_7 dX4_about_225 (c_79) rfl ?_
            refine g_bipush (pc := 228) dX4_about_228 (by decide) ?_
            refine g_iload_n (i := 1) (pc := 230) dX4_about_230 rfl rfl ?_
            refine g_iadd (pc := 231) dX4_about_231 ?_
            refine g_bipush (pc := 232) dX4_about_232 (by decide) ?_
            refine g_isub (pc := 234) dX4_about_234 ?_
            refine g_iald (pc := 235) dX4_about_235 (c_80) (by omega) ?_
            refine g_iret (pc := 236) rfl dX4_about_236 (fun h => h) ?_
            exact df_0 (by unfold xc_ab; rw [if_pos (by omega)]) (by rw [ew114]; rfl) (nw rfl)
          · refine g_tsIn (tgt := 224) (pc := 114) dX4_about_114 (by omega) (by omega) (by omega) (by rw [ew114]; rfl) (by decide) ?_
            refine g_aload_n (i := 0) (pc := 224) dX4_about_224 rfl rfl ?_
            refine g_getf (pc := 225) f_X4_7 dX4_about_225 (c_79) rfl ?_
            refine g_bipush (pc := 228) dX4_about_228 (by decide) ?_
            refine g_iload_n (i := 1) (pc := 230) dX4_about_230 rfl rfl ?_
            refine g_iadd (pc := 231) dX4_about_231 ?_
            refine g_bipush (pc := 232) dX4_about_232 (by decide) ?_
            refine g_isub (pc := 234) dX4_about_234 ?_
            refine g_iald (pc := 235) dX4_about_235 (c_80) (by omega) ?_
            refine g_iret (pc := 236) rfl dX4_about_236 (fun h => h) ?_
            exact df_0 (by unfold xc_ab; rw [if_pos (by omega)]) (by rw [ew114]; rfl) (nw rfl)
          · refine g_tsIn (tgt := 224) (pc := 114) dX4_about_114 (by omega) (by omega) (by omega) (by rw [ew114]; rfl) (by decide) ?_
            refine g_aload_n (i := 0) (pc := 224) dX4_about_224 rfl rfl ?_
            refine g_getf (pc := 225) f_X4_7 dX4_about_225 (c_79) rfl ?_
            refine g_bipush (pc := 228) dX4_about_228 (by decide) ?_
            refine g_iload_n (i := 1) (pc := 230) dX4_about_230 rfl rfl ?_
            refine g_iadd (pc := 231) dX4_about_231 ?_
            refine g_bipush (pc := 232) dX4_about_232 (by decide) ?_
            refine g_isub (pc := 234) dX4_about_234 ?_
            refine g_iald (pc := 235) dX4_about_235 (c_80) (by omega) ?_
            refine g_iret (pc := 236) rfl dX4_about_236 (fun h => h) ?_
            exact df_0 (by unfold xc_ab; rw [if_pos (by omega)]) (by rw [ew114]; rfl) (nw rfl)
        · exfalso
          omega
      · intro k hk ih
        have ys := ct_rng (fun f => sh (n_st ν) f) k
        show G _ _ _ _ _ _ _ _ _ _ _
        refine g_iload (pc := 81) dX4_about_81 rfl ?_
        refine g_bipush (pc := 83) dX4_about_83 (by decide) ?_
        refine g_c_ge (tgt := 113) (pc := 85) dX4_about_85 (by omega) (by decide) (fun c85 => absurd c85 (by omega)) (fun c85 => ?_)
        refine g_iload (pc := 88) dX4_about_88 rfl ?_
        refine g_aload_n (i := 0) (pc := 90) dX4_about_90 rfl rfl ?_
        refine g_iload (pc := 91) dX4_about_91 rfl ?_
        refine g_v1 (pc := 93) okV_X4_isShared rfl l_X4_57 dX4_about_93 (c_79) hc_4 (by decide) (by decide) (Nat.le_of_ble_eq_true rfl) (t_X4_isShared (ν := n_setth (ν) (0)) hi (by omega)) rfl ?_
        simp only [Option.toList, List.cons_append, List.nil_append]
        refine G.eqS (v' := vI (b2 (sh (n_st ν) ((k : Int))))) rfl ?_
        have bb := b2_rng (sh (n_st ν) ((k : Int)))
        refine g_z_eq (tgt := 103) (pc := 96) dX4_about_96 (by omega) (by decide) (fun c96 => ?_) (fun c96 => ?_)
        · skip
          refine g_iconst (pc := 103) dX4_about_103 ?_
          refine g_iadd (pc := 104) dX4_about_104 ?_
          refine g_istore (pc := 105) dX4_about_105 (by decide) rfl ?_
          simp only [List.set_cons_succ, List.set_cons_zero]
          refine g_iinc (pc := 107) dX4_about_107 rfl (by decide) rfl ?_
          simp only [List.set_cons_succ, List.set_cons_zero]
          refine g_goto (tgt := 81) (pc := 110) dX4_about_110 (by decide) ?_
          refine G.eqL (congrArg (fun z => [some (vR 79), some (vI x), some (vI (nbg (n_st ν))), some (vI (nwid (n_st ν))), some (vI z), some (vI ((k : Int) + 1))]) ?_) ih
          exact (Int.add_zero _).trans (ct_no (b2_0.mp (by omega))).symm
        · skip
          refine g_iconst (pc := 99) dX4_about_99 ?_
          refine g_goto (tgt := 104) (pc := 100) dX4_about_100 (by decide) ?_
          refine g_iadd (pc := 104) dX4_about_104 ?_
          refine g_istore (pc := 105) dX4_about_105 (by decide) rfl ?_
          simp only [List.set_cons_succ, List.set_cons_zero]
          refine g_iinc (pc := 107) dX4_about_107 rfl (by decide) rfl ?_
          simp only [List.set_cons_succ, List.set_cons_zero]
          refine g_goto (tgt := 81) (pc := 110) dX4_about_110 (by decide) ?_
          refine G.eqL (congrArg (fun z => [some (vR 79), some (vI x), some (vI (nbg (n_st ν))), some (vI (nwid (n_st ν))), some (vI z), some (vI ((k : Int) + 1))]) ?_) ih
          exact (ct_yes (b2_1.mp (by omega))).symm
    · intro k hk ih
      have yb := ct_rng (fun k => decide (s_bg (n_st ν) k = 1)) k
      have yw := ct_rng (fun k => wid (n_st ν) ((k / 4 : Nat) : Int) ((k % 4 : Nat) : Int)) k
      show G _ _ _ _ _ _ _ _ _ _ _
      refine g_iload (pc := 26) dX4_about_26 rfl ?_
      refine g_bipush (pc := 28) dX4_about_28 (by decide) ?_
      refine g_c_ge (tgt := 75) (pc := 30) dX4_about_30 (by omega) (by decide) (fun c30 => absurd c30 (by omega)) (fun c30 => ?_)
      refine g_iload_n (i := 2) (pc := 33) dX4_about_33 rfl rfl ?_
      refine g_aload_n (i := 0) (pc := 34) dX4_about_34 rfl rfl ?_
      refine g_getf (pc := 35) f_X4_7 dX4_about_35 (c_79) rfl ?_
      refine g_bipush (pc := 38) dX4_about_38 (by decide) ?_
      refine g_iload (pc := 40) dX4_about_40 rfl ?_
      refine g_iadd (pc := 42) dX4_about_42 ?_
      refine g_iald (pc := 43) dX4_about_43 (c_80) (by omega) ?_
      refine G.eqS (congrArg (fun z => vI z) ((r_bg (by omega)).trans (congrArg (s_bg (n_st ν)) (show (68 + (k : Int) - 68).toNat = k by omega)))) ?_
      have z9 := hi.2.2.1 k
      refine g_iadd (pc := 44) dX4_about_44 ?_
      refine g_istore_n (i := 2) (pc := 45) dX4_about_45 rfl (by decide) rfl ?_
      simp only [List.set_cons_succ, List.set_cons_zero]
      refine g_iload_n (i := 3) (pc := 46) dX4_about_46 rfl rfl ?_
      refine g_aload_n (i := 0) (pc := 47) dX4_about_47 rfl rfl ?_
      refine g_iload (pc := 48) dX4_about_48 rfl ?_
      refine g_iconst (pc := 50) dX4_about_50 ?_
      refine g_idiv (pc := 51) dX4_about_51 (by omega) (by omega) ?_
      refine G.eqS (congrArg (fun z => vI z) (n_dv k 4)) ?_
      refine g_iload (pc := 52) dX4_about_52 rfl ?_
      refine g_iconst (pc := 54) dX4_about_54 ?_
      refine g_irem (pc := 55) dX4_about_55 (by omega) (by omega) ?_
      refine G.eqS (congrArg (fun z => vI z) (n_md k 4)) ?_
      refine g_v2 (pc := 56) okV_X4_isWidow rfl l_X4_160 dX4_about_56 (c_79) hc_4 (by decide) (by decide) (Nat.le_of_ble_eq_true rfl) (t_X4_isWidow (ν := n_setth (ν) (0)) hi (by omega) (by omega)) rfl ?_
      simp only [Option.toList, List.cons_append, List.nil_append]
      refine G.eqS (v' := vI (b2 (wid (n_st ν) (((k / 4 : Nat) : Int)) (((k % 4 : Nat) : Int))))) rfl ?_
      have bb := b2_rng (wid (n_st ν) (((k / 4 : Nat) : Int)) (((k % 4 : Nat) : Int)))
      refine g_z_eq (tgt := 66) (pc := 59) dX4_about_59 (by omega) (by decide) (fun c59 => ?_) (fun c59 => ?_)
      · skip
        refine g_iconst (pc := 66) dX4_about_66 ?_
        refine g_iadd (pc := 67) dX4_about_67 ?_
        refine g_istore_n (i := 3) (pc := 68) dX4_about_68 rfl (by decide) rfl ?_
        simp only [List.set_cons_succ, List.set_cons_zero]
        refine g_iinc (pc := 69) dX4_about_69 rfl (by decide) rfl ?_
        simp only [List.set_cons_succ, List.set_cons_zero]
        refine g_goto (tgt := 26) (pc := 72) dX4_about_72 (by decide) ?_
        have e1 : (ct (fun k => decide (s_bg (n_st ν) k = 1)) (k + 1)) = (ct (fun k => decide (s_bg (n_st ν) k = 1)) k) + s_bg (n_st ν) k := by
          rcases z9 with q | q
          · rw [ct_no (by rw [decide_eq_true_eq]; omega), q, Int.add_zero]
          · rw [ct_yes (by rw [decide_eq_true_eq]; exact q), q]
        have e2 : (ct (fun k => wid (n_st ν) ((k / 4 : Nat) : Int) ((k % 4 : Nat) : Int)) (k + 1)) = (ct (fun k => wid (n_st ν) ((k / 4 : Nat) : Int) ((k % 4 : Nat) : Int)) k) + 0 := (ct_no (b2_0.mp (by omega))).trans (Int.add_zero _).symm
        refine G.eqL ?_ ih
        rw [e1, e2]
        rfl
      · skip
        refine g_iconst (pc := 62) dX4_about_62 ?_
        refine g_goto (tgt := 67) (pc := 63) dX4_about_63 (by decide) ?_
        refine g_iadd (pc := 67) dX4_about_67 ?_
        refine g_istore_n (i := 3) (pc := 68) dX4_about_68 rfl (by decide) rfl ?_
        simp only [List.set_cons_succ, List.set_cons_zero]
        refine g_iinc (pc := 69) dX4_about_69 rfl (by decide) rfl ?_
        simp only [List.set_cons_succ, List.set_cons_zero]
        refine g_goto (tgt := 26) (pc := 72) dX4_about_72 (by decide) ?_
        have e1 : (ct (fun k => decide (s_bg (n_st ν) k = 1)) (k + 1)) = (ct (fun k => decide (s_bg (n_st ν) k = 1)) k) + s_bg (n_st ν) k := by
          rcases z9 with q | q
          · rw [ct_no (by rw [decide_eq_true_eq]; omega), q, Int.add_zero]
          · rw [ct_yes (by rw [decide_eq_true_eq]; exact q), q]
        have e2 : (ct (fun k => wid (n_st ν) ((k / 4 : Nat) : Int) ((k % 4 : Nat) : Int)) (k + 1)) = (ct (fun k => wid (n_st ν) ((k / 4 : Nat) : Int) ((k % 4 : Nat) : Int)) k) + 1 := ct_yes (b2_1.mp (by omega))
        refine G.eqL ?_ ih
        rw [e1, e2]
        rfl
end MD4
