/-! THE CLASS'S FACE: its states, its history (printed by wip/whole/cls2.py, but for the first rows) -/
section FA
def dq (r0 : (Option MV) ⊕ String) (w1 : List MC) : (Option MV) ⊕ String → List MC → Prop := fun r w' => r = r0 ∧ w' = w1
def xR (c v : Int) (E1 E2 E3 : String) : (Option MV) ⊕ String := if c = 0 then .inl (some (vI v)) else if c = 1 then .inr E1 else if c = 2 then .inr E2 else .inr E3
theorem dq_0 {c v v' : Int} {E1 E2 E3 : String} {w w1 : List MC} (h : c = 0) (hv : v' = v) (hw : w = w1) : dq (xR c v E1 E2 E3) w1 (.inl (some (vI v'))) w := by
  refine ⟨?_, hw⟩
  unfold xR
  rw [if_pos h, hv]
theorem dq_1 {c v : Int} {E1 E2 E3 : String} {w w1 : List MC} (h : c = 1) (hw : w = w1) : dq (xR c v E1 E2 E3) w1 (.inr E1) w := by
  refine ⟨?_, hw⟩
  unfold xR
  rw [if_neg (by omega), if_pos h]
theorem dq_2 {c v : Int} {E1 E2 E3 : String} {w w1 : List MC} (h : c = 2) (hw : w = w1) : dq (xR c v E1 E2 E3) w1 (.inr E2) w := by
  refine ⟨?_, hw⟩
  unfold xR
  rw [if_neg (by omega), if_neg (by omega), if_pos h]
theorem dq_3 {c v : Int} {E1 E2 E3 : String} {w w1 : List MC} (h : c = 3) (hw : w = w1) : dq (xR c v E1 E2 E3) w1 (.inr E3) w := by
  refine ⟨?_, hw⟩
  unfold xR
  rw [if_neg (by omega), if_neg (by omega), if_neg (by omega)]
theorem dq_req1 {c : Prop} [Decidable c] {E : String} {W w' : List MC} {r : Option MV} (h : dq (if c then .inl none else .inr E) W (.inl r) w') : c ∧ r = none ∧ w' = W := by
  obtain ⟨h1, h2⟩ := h
  by_cases q : c
  · rw [if_pos q] at h1
    exact ⟨q, Sum.inl.inj h1, h2⟩
  · rw [if_neg q] at h1
    cases h1
theorem dq_req2 {c : Prop} [Decidable c] {E E' : String} {W w' : List MC} (h : dq (if c then .inl none else .inr E) W (.inr E') w') : ¬ c ∧ E' = E ∧ w' = W := by
  obtain ⟨h1, h2⟩ := h
  by_cases q : c
  · rw [if_pos q] at h1
    cases h1
  · rw [if_neg q] at h1
    exact ⟨q, Sum.inr.inj h1, h2⟩
/-- the same number, wrapped -/
def wr (x : Int) : Int := (Int32.ofInt x).toInt
theorem wr_rng (x : Int) : -2147483648 ≤ wr x ∧ wr x < 2147483648 := by
  have h1 := Int32.minValue_le_toInt (Int32.ofInt x)
  have h2 := Int32.toInt_lt (Int32.ofInt x)
  unfold wr
  constructor
  · have h3 : Int32.minValue.toInt = -2147483648 := by decide
    omega
  · omega
section
variable {M : MT} {scr : Option (Nat × (Nat → Int))} {al alE : Bool} {pc : Nat} {L : List (Option MV)} {S : List MV} {w w1 : List MC} {bc bs : Nat} {Q : (Option MV) ⊕ String → List MC → Prop}
theorem g_wr {x : Int} (kk : G M scr al alE pc L (vI (wr x) :: S) w bc bs Q) : G M scr al alE pc L (vI x :: S) w bc bs Q := by
  have e : ∀ ad, g_V ad (vI x) = g_V ad (vI (wr x)) := by
    intro ad
    show Value.int _ = Value.int _
    unfold wr
    rw [Int32.ofInt_toInt]
  intro p l e' R s m args below meth c D cA ad base A H locs cells slots mc ms ls fx dy hl
  have h := kk p l e' R s m args below meth c D cA ad base A H locs cells slots mc ms ls fx dy hl
  rw [List.map_cons, ← e ad] at h
  exact h
theorem g_vr {Mj : MT} {idx b ci a : Nat} {fs : List MV} {r0 : Option MV} (hok : g_okV Mj 1) (hh : mH Mj = []) (hlink : Cond.methodLink (mY M).cls idx (mY Mj) ∈ g_WS) (hd : decode (mC M) pc = .ok (.invokevirtual idx, 3)) (hw : w[b]? = some (cObj ci fs)) (hc : ∃ (T : u_T) (N : Nat), vwCl[ci]? = some ((mY Mj).cls, T, N))
    (hent : 2 ≤ mL Mj) (hroom : mF Mj + 1 ≤ mF M ∧ 8 + (mL Mj + 11) + mO Mj ≤ mO M) (hsz : g_sz S ≤ 8) (hj : GM Mj al [vR b, vR a] w 0 0 (dt r0 w1)) (hlen : w1.length = w.length) (kk : G M scr al alE (pc + 3) L (r0.toList ++ S) w1 bc bs Q) : G M scr al alE pc L (vR a :: vR b :: S) w bc bs Q :=
  g_vv (as := [vR a]) hok hh hlink hd hw hc rfl hent hroom hsz hj hlen kk
end
theorem c_self0 {κ : KT} {δ : DT} {o : DT} : cW κ δ o = setM (cW κ δ o) 3 (mem (k_ms κ 0)) := c_self (i := 0) (by decide)
theorem c_mem0 {κ : KT} {δ : DT} {o : DT} {σ : SG} : setM (cW κ δ o) 3 (mem σ) = cW (k_setms κ 0 σ) δ o := c_mem (i := 0) (by decide)
theorem c_ok0 {κ : KT} {δ : DT} {o : DT} : okM (cW κ δ o) 3 := c_ok (i := 0) (by decide)
theorem c_rd0 {κ : KT} {δ : DT} {o : DT} : rdM (cW κ δ o) 3 (mem (k_ms κ 0)) := c_rd (i := 0) (by decide)
theorem w_ea0 {κ : KT} {δ : DT} {o : DT} {z : Int} : (cW κ δ o).set 3 (cObj 1 ((memL 3 (mem (k_ms κ 0))).set 5 (vI z))) = cW (k_setms κ 0 (s_setea (k_ms κ 0) z)) δ o := by
  have h := m_put5 (w := cW κ δ o) (a := 3) (fr := (mem (k_ms κ 0)).1) (us := (mem (k_ms κ 0)).2.1) (va := (mem (k_ms κ 0)).2.2.1) (pr := (mem (k_ms κ 0)).2.2.2.1) (bg := (mem (k_ms κ 0)).2.2.2.2.1) (ea := (mem (k_ms κ 0)).2.2.2.2.2.1) (co := (mem (k_ms κ 0)).2.2.2.2.2.2.1) (fa := (mem (k_ms κ 0)).2.2.2.2.2.2.2.1) (te := (mem (k_ms κ 0)).2.2.2.2.2.2.2.2.1) (lo := (mem (k_ms κ 0)).2.2.2.2.2.2.2.2.2) (z := z) c_ok0
  rw [← c_mem0]
  refine Eq.trans ?_ h
  exact congrArg (fun z9 : List MC => z9.set 3 (cObj 1 ((memL 3 (mem (k_ms κ 0))).set 5 (vI z)))) c_self0
theorem c_self1 {κ : KT} {δ : DT} {o : DT} : cW κ δ o = setM (cW κ δ o) 7 (mem (k_ms κ 1)) := c_self (i := 1) (by decide)
theorem c_mem1 {κ : KT} {δ : DT} {o : DT} {σ : SG} : setM (cW κ δ o) 7 (mem σ) = cW (k_setms κ 1 σ) δ o := c_mem (i := 1) (by decide)
theorem c_ok1 {κ : KT} {δ : DT} {o : DT} : okM (cW κ δ o) 7 := c_ok (i := 1) (by decide)
theorem c_rd1 {κ : KT} {δ : DT} {o : DT} : rdM (cW κ δ o) 7 (mem (k_ms κ 1)) := c_rd (i := 1) (by decide)
theorem w_ea1 {κ : KT} {δ : DT} {o : DT} {z : Int} : (cW κ δ o).set 7 (cObj 1 ((memL 7 (mem (k_ms κ 1))).set 5 (vI z))) = cW (k_setms κ 1 (s_setea (k_ms κ 1) z)) δ o := by
  have h := m_put5 (w := cW κ δ o) (a := 7) (fr := (mem (k_ms κ 1)).1) (us := (mem (k_ms κ 1)).2.1) (va := (mem (k_ms κ 1)).2.2.1) (pr := (mem (k_ms κ 1)).2.2.2.1) (bg := (mem (k_ms κ 1)).2.2.2.2.1) (ea := (mem (k_ms κ 1)).2.2.2.2.2.1) (co := (mem (k_ms κ 1)).2.2.2.2.2.2.1) (fa := (mem (k_ms κ 1)).2.2.2.2.2.2.2.1) (te := (mem (k_ms κ 1)).2.2.2.2.2.2.2.2.1) (lo := (mem (k_ms κ 1)).2.2.2.2.2.2.2.2.2) (z := z) c_ok1
  rw [← c_mem1]
  refine Eq.trans ?_ h
  exact congrArg (fun z9 : List MC => z9.set 7 (cObj 1 ((memL 7 (mem (k_ms κ 1))).set 5 (vI z)))) c_self1
theorem kinv_ms {κ : KT} {i : Nat} {σ : SG} (hK : KInv κ) (h : Inv σ) : KInv (k_setms κ i σ) := by
  obtain ⟨h1, h2, h3, h4⟩ := hK
  refine ⟨h1, h2, fun j => ?_, h4⟩
  show Inv (va_up (k_ms κ) i σ j)
  unfold va_up
  split
  · exact h
  · exact h3 j
theorem kinv_ln {κ : KT} {z : Int} (hK : KInv κ) (h : 0 ≤ z ∧ z ≤ 100) : KInv (k_setln κ z) := ⟨hK.1, h, hK.2.2⟩
theorem kinv_sg {κ : KT} {k : Nat} {x : Int} (hK : KInv κ) (h : 0 ≤ x ∧ x < 256) : KInv (k_setsg κ (va_up (k_sg κ) k x)) := by
  refine ⟨fun j => ?_, hK.2⟩
  show 0 ≤ va_up (k_sg κ) k x j ∧ va_up (k_sg κ) k x j < 256
  unfold va_up
  split
  · exact h
  · exact hK.1 j
theorem kinv_nx {κ : KT} {z : Int} (hK : KInv κ) (h : 0 ≤ z ∧ z < 14) : KInv (k_setnx κ z) := ⟨hK.1, hK.2.1, hK.2.2.1, h, hK.2.2.2.2⟩
theorem kinv_sz {κ : KT} {z : Int} (hK : KInv κ) (h : 0 ≤ z ∧ z ≤ 14) : KInv (k_setsz κ z) := ⟨hK.1, hK.2.1, hK.2.2.1, hK.2.2.2.1, h, hK.2.2.2.2.2⟩
theorem kinv_fl {κ : KT} {k : Nat} {x : Int} (hK : KInv κ) (h : x = 0 ∨ x = 1) : KInv (k_setfl κ (va_up (k_fl κ) k x)) := by
  refine ⟨hK.1, hK.2.1, hK.2.2.1, hK.2.2.2.1, hK.2.2.2.2.1, fun j => ?_⟩
  show va_up (k_fl κ) k x j = 0 ∨ va_up (k_fl κ) k x j = 1
  unfold va_up
  split
  · exact h
  · exact hK.2.2.2.2.2 j
/-- a state is remembered; the last one is taken back -/
def k_rem (κ : KT) : KT := k_setsz (k_setnx (k_setms κ (2 + (k_nx κ).toNat) (k_ms κ 0)) ((k_nx κ + 1) % 14)) (if k_sz κ < 14 then k_sz κ + 1 else 14)
def k_prv (κ : KT) : Int := (k_nx κ + 13) % 14
def k_tak (κ : KT) : KT := if 0 < k_sz κ then k_setms (k_setsz (k_setnx κ (k_prv κ)) (k_sz κ - 1)) 0 (k_ms κ (2 + (k_prv κ).toNat)) else κ
theorem k_prv_rng (κ : KT) : 0 ≤ k_prv κ ∧ k_prv κ < 14 := by unfold k_prv; omega
theorem kinv_rem {κ : KT} (hK : KInv κ) : KInv (k_rem κ) := by
  have h1 := hK.2.2.2.2.1
  refine kinv_sz (kinv_nx (kinv_ms hK (hK.2.2.1 0)) (by omega)) ?_
  split <;> omega
theorem kinv_tak {κ : KT} (hK : KInv κ) : KInv (k_tak κ) := by
  have h1 := hK.2.2.2.2.1
  unfold k_tak
  split
  · exact kinv_ms (kinv_sz (kinv_nx hK (k_prv_rng κ)) (by omega)) (hK.2.2.1 _)
  · exact hK
theorem adr_r {n : Nat} (h : n < 14) : 13 + 4 * n = adr (2 + n) := by unfold adr; rw [if_neg (by omega), if_pos (by omega)]; omega
theorem adr_s {n : Nat} (h : n < 2) : 70 + 4 * n = adr (16 + n) := by unfold adr; rw [if_neg (by omega), if_neg (by omega)]; omega
/-! what the methods of a state do -/
def dw (σ : SG) (p v x : Int) : SG := if oc σ p v = -1 ∨ x < 0 ∨ 100 ≤ x then σ else s_wri σ p v x
def dwv (σ : SG) (p v x : Int) : Int := if oc σ p v = -1 ∨ x < 0 ∨ 100 ≤ x then -1 else oc σ p v
def df (σ : SG) (p : Int) : SG := if canF σ p = true then s_for σ p else σ
def dfv (σ : SG) (p : Int) : Int := if canF σ p = true then lup σ else -1
def de (σ : SG) (p : Int) : SG := if canE σ p = true then s_end σ p else σ
def dev (σ : SG) (p : Int) : Int := if canE σ p = true then nff (s_le σ p 16) - nff σ else -1
def dm (σ : SG) (p g : Int) : SG := if hasGr σ p g = true ∧ wn σ p g = 0 then s_mar σ p g else σ
def dmv (σ : SG) (p g : Int) : Int := if hasGr σ p g = true ∧ wn σ p g = 0 then (if ip σ p g = true then 0 else 4) else -1
def dtt (σ : SG) (p g : Int) : SG := if ro σ p g = -1 then σ else s_torn σ p g
def dp (σ : SG) (n : Int) : SG := if 1 ≤ n ∧ n ≤ 32 then s_pre σ n else σ
def dpv (σ : SG) (n : Int) : Int := if 1 ≤ n ∧ n ≤ 32 then nff (s_pre σ n) else -1
def dn (σ : SG) : SG := if nxt σ ≠ -1 then s_mar σ (nxt σ / 4) (nxt σ % 4) else σ
theorem inv_dw {σ : SG} (hi : Inv σ) (p v x : Int) : Inv (dw σ p v x) := by
  unfold dw
  split
  · exact hi
  · exact inv_wri hi (by omega) (by omega)
theorem inv_df {σ : SG} (hi : Inv σ) (p : Int) : Inv (df σ p) := by
  unfold df
  split
  · rename_i h
    rw [canF, Bool.and_eq_true, decide_eq_true_eq] at h
    exact inv_for hi h.2
  · exact hi
theorem inv_de {σ : SG} (hi : Inv σ) (p : Int) : Inv (de σ p) := by
  unfold de
  split
  · rename_i h
    rw [canE, Bool.and_eq_true] at h
    have h2 := ex_of h.1
    exact inv_end hi ⟨h2.1, h2.2.1⟩
  · exact hi
theorem inv_dm {σ : SG} (hi : Inv σ) (p g : Int) : Inv (dm σ p g) := by
  unfold dm
  split
  · rename_i h
    obtain ⟨h1, h2⟩ := ex_gr h.1
    exact inv_mar hi h1 h2 h.2
  · exact hi
theorem ro_big {σ : SG} {p g : Int} (h : ¬ ro σ p g = -1) : 0 ≤ p ∧ p < 4 ∧ 0 ≤ g ∧ g < 4 ∧ s_bg σ (4 * p + g).toNat = 1 := by
  by_cases q : big σ p g = true
  · exact of_decide_eq_true q
  · exfalso
    apply h
    unfold ro
    rw [if_neg q]
theorem inv_dtt {σ : SG} (hi : Inv σ) (p g : Int) : Inv (dtt σ p g) := by
  unfold dtt
  split
  · exact hi
  · rename_i h
    have h2 := ro_big h
    exact inv_torn hi (by omega) (by omega)
theorem inv_dp {σ : SG} (hi : Inv σ) (n : Int) : Inv (dp σ n) := by
  unfold dp
  split
  · exact inv_itp hi n 80
  · exact hi
theorem inv_dn {σ : SG} (hi : Inv σ) : Inv (dn σ) := by
  unfold dn
  split
  · rename_i h
    obtain ⟨h1, h2, h3⟩ := nxt_ok h
    exact inv_mar hi h1 h2 h3
  · exact hi
theorem dwv_rng (σ : SG) (p v x : Int) : -1 ≤ dwv σ p v x ∧ dwv σ p v x ≤ 3 := by
  have := oc_rng σ p v
  unfold dwv
  split <;> omega
theorem dfv_rng (σ : SG) (p : Int) : -1 ≤ dfv σ p ∧ dfv σ p < 4 := by
  have := lup_rng σ
  unfold dfv
  split <;> omega
theorem dmv_rng (σ : SG) (p g : Int) : -1 ≤ dmv σ p g ∧ dmv σ p g ≤ 4 := by
  unfold dmv
  (repeat' split) <;> omega
theorem dpv_rng (σ : SG) (n : Int) : -1 ≤ dpv σ n ∧ dpv σ n ≤ 32 := by
  have := nff_rng (s_pre σ n)
  unfold dpv
  split <;> omega
theorem dev_rng (σ : SG) (p : Int) : -32 ≤ dev σ p ∧ dev σ p ≤ 32 := by
  have h1 := nff_rng (s_le σ p 16)
  have h2 := nff_rng σ
  unfold dev
  split <;> omega
set_option maxRecDepth 20000 in
set_option maxHeartbeats 4000000 in
theorem t_X0_remember {κ : KT} {δ : DT} {o : DT} {al : Bool} (hK : KInv κ) : GM M_X0_remember al [vR 11, vR 3] (cW κ δ o) 0 0 (dt none (cW (k_rem κ) δ o)) := by
  show G _ none _ _ 0 [some (vR 11), some (vR 3)] [] _ _ _ _
  have hN := hK.2.2.2.1
  have hS := hK.2.2.2.2.1
  refine g_aload_n (i := 0) (pc := 0) dX0_remember_0 rfl rfl ?_
  refine g_getf (pc := 1) f_X0_11 dX0_remember_1 (c_11) rfl ?_
  refine g_aload_n (i := 0) (pc := 4) dX0_remember_4 rfl rfl ?_
  refine g_getf (pc := 5) f_X0_22 dX0_remember_5 (c_11) rfl ?_
  refine g_aald (b := 13 + 4 * (k_nx κ).toNat) (pc := 8) dX0_remember_8 c_12 (by omega) (by show (if (k_nx κ).toNat < 14 then some (13 + 4 * (k_nx κ).toNat) else none) = _; rw [if_pos (by omega)]) ?_
  refine G.eqS (congrArg (fun z => vR z) (adr_r (by omega))) ?_
  refine g_aload_n (i := 1) (pc := 9) dX0_remember_9 rfl rfl ?_
  refine G.eqw (c_self (i := 2 + (k_nx κ).toNat) (by omega)) ?_
  refine g_vr (pc := 10) okV_X1_copyFrom rfl l_X0_25 dX0_remember_10 (m_at0 (c_ok (by omega))) hc_1 (by decide) (by decide) (Nat.le_of_ble_eq_true rfl) (t_X1_copyFrom (c_ok (by omega)) (hK.2.2.1 _) c_rd0 (hK.2.2.1 0) (adr_dis (i := 0) (j := 2 + (k_nx κ).toNat) (by omega) (by omega) (by omega))) (by simp only [m_len]) ?_
  simp only [Option.toList, List.cons_append, List.nil_append]
  refine G.eqw (c_mem (by omega)) ?_
  refine g_aload_n (i := 0) (pc := 13) dX0_remember_13 rfl rfl ?_
  refine g_aload_n (i := 0) (pc := 14) dX0_remember_14 rfl rfl ?_
  refine g_getf (pc := 15) f_X0_22 dX0_remember_15 (c_11) rfl ?_
  refine G.eqS (congrArg (fun z => vI z) (show _ = k_nx κ from rfl)) ?_
  refine g_iconst (pc := 18) dX0_remember_18 ?_
  refine g_iadd (pc := 19) dX0_remember_19 ?_
  refine g_bipush (pc := 20) dX0_remember_20 (by decide) ?_
  refine g_irem (pc := 22) dX0_remember_22 (by omega) (by omega) ?_
  refine G.eqS (congrArg (fun z => vI z) (Int.tmod_eq_emod_of_nonneg (by omega))) ?_
  refine g_put (pc := 23) ft_X0_22 dX0_remember_23 (c_11) (Nat.le_of_ble_eq_true rfl) (fun _ => rfl) (fun _ => rfl) (fun h => nomatch h) ?_
  refine G.eqw w_nx ?_
  refine g_aload_n (i := 0) (pc := 26) dX0_remember_26 rfl rfl ?_
  refine g_aload_n (i := 0) (pc := 27) dX0_remember_27 rfl rfl ?_
  refine g_getf (pc := 28) f_X0_18 dX0_remember_28 (c_11) rfl ?_
  refine G.eqS (congrArg (fun z => vI z) (show _ = k_sz κ from rfl)) ?_
  refine g_iconst (pc := 31) dX0_remember_31 ?_
  refine g_iadd (pc := 32) dX0_remember_32 ?_
  refine g_bipush (pc := 33) dX0_remember_33 (by decide) ?_
  refine g_min (pc := 35) l_X0_29 w_mm1 w_mm2 w_mm3 dX0_remember_35 (by omega) (by decide) (Nat.le_of_ble_eq_true rfl) ?_
  refine g_put (pc := 38) ft_X0_18 dX0_remember_38 (c_11) (Nat.le_of_ble_eq_true rfl) (fun _ => rfl) (fun _ => rfl) (fun h => nomatch h) ?_
  refine G.eqw w_sz ?_
  refine g_vret (pc := 41) rfl dX0_remember_41 (fun h => h) ?_
  refine dt_v ?_
  have e9 : (if 14 < k_sz κ + 1 then (14 : Int) else k_sz κ + 1) = (if k_sz κ < 14 then k_sz κ + 1 else 14) := by
    (repeat' split) <;> omega
  show cW (k_setsz (k_setnx (k_setms κ (2 + (k_nx κ).toNat) (k_ms κ 0)) ((k_nx κ + 1) % 14)) (if 14 < k_sz κ + 1 then (14 : Int) else k_sz κ + 1)) δ o = _
  rw [e9]
  rfl
set_option maxRecDepth 20000 in
set_option maxHeartbeats 4000000 in
theorem t_X3_requireProcess {κ : KT} {δ : DT} {o : DT} (hK : KInv κ) {p : Int} (h_p : -2147483648 ≤ p ∧ p < 2147483648) : GM M_X3_requireProcess false [vR 0, vI p] (cW κ δ o) 1 6 (dq (if hasP (k_ms κ 0) p = true then .inl none else .inr "java/lang/IndexOutOfBoundsException") (cW κ δ o)) := by
  show G _ none _ _ 0 [some (vR 0), some (vI p)] [] _ _ _ _
  refine g_aload_n (i := 0) (pc := 0) dX3_requireProcess_0 rfl rfl ?_
  refine g_getf (pc := 1) f_X3_19 dX3_requireProcess_1 (c_0) rfl ?_
  refine g_iload_n (i := 1) (pc := 4) dX3_requireProcess_4 rfl rfl ?_
  have hi := hK.2.2.1 0
  refine G.eqw c_self0 ?_
  refine g_v1 (pc := 5) okV_X1_hasProcess rfl l_X3_271 dX3_requireProcess_5 (m_at0 c_ok0) hc_1 (by decide) (by decide) (Nat.le_of_ble_eq_true rfl) (t_X1_hasProcess c_ok0 hi (by omega)) (by simp only [m_len]) ?_
  simp only [Option.toList, List.cons_append, List.nil_append]
  refine G.eqw c_self0.symm ?_
  have bb := b2_rng (hasP (k_ms (κ) 0) (p))
  refine g_z_ne (tgt := 22) (pc := 8) dX3_requireProcess_8 (by omega) (by decide) (fun c8 => ?_) (fun c8 => ?_)
  · skip
    refine g_vret (pc := 22) rfl dX3_requireProcess_22 (fun h => h) ?_
    first
    | (rw [if_pos (b2_1.mp (by omega))]; exact ⟨rfl, rfl⟩)
    | (rw [if_neg (b2_0.mp (by omega))]; exact ⟨rfl, rfl⟩)
  · skip
    refine g_throwW (pc := 11) (is := 274) (tx := "no such process") e_143_147 (by decide) rfl dX3_requireProcess_11 dX3_requireProcess_14 dX3_requireProcess_15 dX3_requireProcess_18 dX3_requireProcess_21 (by decide) (Nat.le_of_ble_eq_true rfl) (by omega) ?_
    first
    | (rw [if_pos (b2_1.mp (by omega))]; exact ⟨rfl, rfl⟩)
    | (rw [if_neg (b2_0.mp (by omega))]; exact ⟨rfl, rfl⟩)
set_option maxRecDepth 20000 in
set_option maxHeartbeats 4000000 in
theorem t_X3_requirePage {κ : KT} {δ : DT} {o : DT} (hK : KInv κ) {p v : Int} (h_p : -2147483648 ≤ p ∧ p < 2147483648) (h_v : -2147483648 ≤ v ∧ v < 2147483648) : GM M_X3_requirePage false [vR 0, vI p, vI v] (cW κ δ o) 1 6 (dq (if hasPg (k_ms κ 0) p v = true then .inl none else .inr "java/lang/IndexOutOfBoundsException") (cW κ δ o)) := by
  show G _ none _ _ 0 [some (vR 0), some (vI p), some (vI v)] [] _ _ _ _
  refine g_aload_n (i := 0) (pc := 0) dX3_requirePage_0 rfl rfl ?_
  refine g_getf (pc := 1) f_X3_19 dX3_requirePage_1 (c_0) rfl ?_
  refine g_iload_n (i := 1) (pc := 4) dX3_requirePage_4 rfl rfl ?_
  refine g_iload_n (i := 2) (pc := 5) dX3_requirePage_5 rfl rfl ?_
  have hi := hK.2.2.1 0
  refine G.eqw c_self0 ?_
  refine g_v2 (pc := 6) okV_X1_hasPage rfl l_X3_276 dX3_requirePage_6 (m_at0 c_ok0) hc_1 (by decide) (by decide) (Nat.le_of_ble_eq_true rfl) (t_X1_hasPage c_ok0 hi (by omega) (by omega)) (by simp only [m_len]) ?_
  simp only [Option.toList, List.cons_append, List.nil_append]
  refine G.eqw c_self0.symm ?_
  have bb := b2_rng (hasPg (k_ms (κ) 0) (p) (v))
  refine g_z_ne (tgt := 23) (pc := 9) dX3_requirePage_9 (by omega) (by decide) (fun c9 => ?_) (fun c9 => ?_)
  · skip
    refine g_vret (pc := 23) rfl dX3_requirePage_23 (fun h => h) ?_
    first
    | (rw [if_pos (b2_1.mp (by omega))]; exact ⟨rfl, rfl⟩)
    | (rw [if_neg (b2_0.mp (by omega))]; exact ⟨rfl, rfl⟩)
  · skip
    refine g_throwW (pc := 12) (is := 279) (tx := "no such process or page") e_143_147 (by decide) rfl dX3_requirePage_12 dX3_requirePage_15 dX3_requirePage_16 dX3_requirePage_19 dX3_requirePage_22 (by decide) (Nat.le_of_ble_eq_true rfl) (by omega) ?_
    first
    | (rw [if_pos (b2_1.mp (by omega))]; exact ⟨rfl, rfl⟩)
    | (rw [if_neg (b2_0.mp (by omega))]; exact ⟨rfl, rfl⟩)
set_option maxRecDepth 20000 in
set_option maxHeartbeats 4000000 in
theorem t_X3_requireGroup {κ : KT} {δ : DT} {o : DT} (hK : KInv κ) {p g : Int} (h_p : -2147483648 ≤ p ∧ p < 2147483648) (h_g : -2147483648 ≤ g ∧ g < 2147483648) : GM M_X3_requireGroup false [vR 0, vI p, vI g] (cW κ δ o) 1 6 (dq (if hasGr (k_ms κ 0) p g = true then .inl none else .inr "java/lang/IndexOutOfBoundsException") (cW κ δ o)) := by
  show G _ none _ _ 0 [some (vR 0), some (vI p), some (vI g)] [] _ _ _ _
  refine g_aload_n (i := 0) (pc := 0) dX3_requireGroup_0 rfl rfl ?_
  refine g_getf (pc := 1) f_X3_19 dX3_requireGroup_1 (c_0) rfl ?_
  refine g_iload_n (i := 1) (pc := 4) dX3_requireGroup_4 rfl rfl ?_
  refine g_iload_n (i := 2) (pc := 5) dX3_requireGroup_5 rfl rfl ?_
  have hi := hK.2.2.1 0
  refine G.eqw c_self0 ?_
  refine g_v2 (pc := 6) okV_X1_hasGroup rfl l_X3_281 dX3_requireGroup_6 (m_at0 c_ok0) hc_1 (by decide) (by decide) (Nat.le_of_ble_eq_true rfl) (t_X1_hasGroup c_ok0 hi (by omega) (by omega)) (by simp only [m_len]) ?_
  simp only [Option.toList, List.cons_append, List.nil_append]
  refine G.eqw c_self0.symm ?_
  have bb := b2_rng (hasGr (k_ms (κ) 0) (p) (g))
  refine g_z_ne (tgt := 23) (pc := 9) dX3_requireGroup_9 (by omega) (by decide) (fun c9 => ?_) (fun c9 => ?_)
  · skip
    refine g_vret (pc := 23) rfl dX3_requireGroup_23 (fun h => h) ?_
    first
    | (rw [if_pos (b2_1.mp (by omega))]; exact ⟨rfl, rfl⟩)
    | (rw [if_neg (b2_0.mp (by omega))]; exact ⟨rfl, rfl⟩)
  · skip
    refine g_throwW (pc := 12) (is := 284) (tx := "no such process or group") e_143_147 (by decide) rfl dX3_requireGroup_12 dX3_requireGroup_15 dX3_requireGroup_16 dX3_requireGroup_19 dX3_requireGroup_22 (by decide) (Nat.le_of_ble_eq_true rfl) (by omega) ?_
    first
    | (rw [if_pos (b2_1.mp (by omega))]; exact ⟨rfl, rfl⟩)
    | (rw [if_neg (b2_0.mp (by omega))]; exact ⟨rfl, rfl⟩)
end FA
