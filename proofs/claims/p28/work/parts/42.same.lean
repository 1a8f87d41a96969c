/-! THE LAW LOOKS AT ALL (printed by wip/p28/same.py, but for the first rows) -/
section SA9
section
variable {M Mj : MT} {scr : Option (Nat × (Nat → Int))} {al alE : Bool} {pc : Nat} {L : List (Option MV)} {S : List MV} {w w1 : List MC} {bc bs : Nat} {Q : (Option MV) ⊕ String → List MC → Prop} {idx b ci : Nat} {fs : List MV} {c v : Int} {E1 E2 E3 : String}
theorem G.join1 {T : Nat} {x v : Int} (J : G M scr al alE T L (vI v :: S) w bc bs Q) (k : G M scr al alE T L (vI v :: S) w bc bs Q → G M scr al alE pc L (vI x :: S) w bc bs Q) : G M scr al alE pc L (vI x :: S) w bc bs Q := k J
theorem G.join2 {T : Nat} {x y v : Int} (J : G M scr al alE T L (vI v :: S) w bc bs Q) (k : G M scr al alE T L (vI v :: S) w bc bs Q → G M scr al alE pc L (vI y :: vI x :: S) w bc bs Q) : G M scr al alE pc L (vI y :: vI x :: S) w bc bs Q := k J
/-- a call of the class that answers, and changes nothing -/
theorem g_vq {n : Nat} {as : List MV} (hok : g_okV Mj n) (hh : mH Mj = []) (hlink : Cond.methodLink (mY M).cls idx (mY Mj) ∈ g_WS) (hd : decode (mC M) pc = .ok (.invokevirtual idx, 3)) (hw : w[b]? = some (cObj ci fs)) (hc : ∃ (T : u_T) (N : Nat), vwCl[ci]? = some ((mY Mj).cls, T, N)) (hn : as.length = n)
    (hent : (g_ent (vR b :: as)).length ≤ mL Mj) (hroom : mF Mj + 1 ≤ mF M ∧ 8 + (mL Mj + 11) + mO Mj ≤ mO M) (hsz : g_sz S ≤ 8) (hb : 2 ≤ bc ∧ 12 ≤ bs) (hj : GM Mj false (vR b :: as) w 2 12 (dq (xR c v E1 E2 E3) w)) (h0 : c = 0) (kk : G M scr false alE (pc + 3) L (vI v :: S) w (bc - 2) (bs - 12) Q) : G M scr false alE pc L (as.reverse ++ vR b :: S) w bc bs Q :=
  g_callV hok hh hlink hd hw hc hn hent hroom hsz hb hj (fun h => nomatch h) (fun r w' h => by
    obtain ⟨h1, h2⟩ := h
    obtain ⟨-, rfl⟩ := xR_i h1
    subst h2
    exact kk) (fun E w' h => by
    obtain ⟨h1, h2⟩ := h
    rcases xR_e h1 with ⟨q, -⟩ | ⟨q, -⟩ | ⟨q, -⟩ <;> omega)
theorem g_vq0  (hok : g_okV Mj 0) (hh : mH Mj = []) (hlink : Cond.methodLink (mY M).cls idx (mY Mj) ∈ g_WS) (hd : decode (mC M) pc = .ok (.invokevirtual idx, 3)) (hw : w[b]? = some (cObj ci fs)) (hc : ∃ (T : u_T) (N : Nat), vwCl[ci]? = some ((mY Mj).cls, T, N))
    (hent : 1 ≤ mL Mj) (hroom : mF Mj + 1 ≤ mF M ∧ 8 + (mL Mj + 11) + mO Mj ≤ mO M) (hsz : g_sz S ≤ 8) (hb : 2 ≤ bc ∧ 12 ≤ bs) (hj : GM Mj false [vR b] w 2 12 (dq (xR c v E1 E2 E3) w)) (h0 : c = 0) (kk : G M scr false alE (pc + 3) L (vI v :: S) w (bc - 2) (bs - 12) Q) : G M scr false alE pc L (vR b :: S) w bc bs Q :=
  g_vq (as := []) hok hh hlink hd hw hc rfl hent hroom hsz hb hj h0 kk
theorem g_vq1 {x : Int} (hok : g_okV Mj 1) (hh : mH Mj = []) (hlink : Cond.methodLink (mY M).cls idx (mY Mj) ∈ g_WS) (hd : decode (mC M) pc = .ok (.invokevirtual idx, 3)) (hw : w[b]? = some (cObj ci fs)) (hc : ∃ (T : u_T) (N : Nat), vwCl[ci]? = some ((mY Mj).cls, T, N))
    (hent : 2 ≤ mL Mj) (hroom : mF Mj + 1 ≤ mF M ∧ 8 + (mL Mj + 11) + mO Mj ≤ mO M) (hsz : g_sz S ≤ 8) (hb : 2 ≤ bc ∧ 12 ≤ bs) (hj : GM Mj false [vR b, vI x] w 2 12 (dq (xR c v E1 E2 E3) w)) (h0 : c = 0) (kk : G M scr false alE (pc + 3) L (vI v :: S) w (bc - 2) (bs - 12) Q) : G M scr false alE pc L (vI x :: vR b :: S) w bc bs Q :=
  g_vq (as := [vI x]) hok hh hlink hd hw hc rfl hent hroom hsz hb hj h0 kk
theorem g_vq2 {x y : Int} (hok : g_okV Mj 2) (hh : mH Mj = []) (hlink : Cond.methodLink (mY M).cls idx (mY Mj) ∈ g_WS) (hd : decode (mC M) pc = .ok (.invokevirtual idx, 3)) (hw : w[b]? = some (cObj ci fs)) (hc : ∃ (T : u_T) (N : Nat), vwCl[ci]? = some ((mY Mj).cls, T, N))
    (hent : 3 ≤ mL Mj) (hroom : mF Mj + 1 ≤ mF M ∧ 8 + (mL Mj + 11) + mO Mj ≤ mO M) (hsz : g_sz S ≤ 8) (hb : 2 ≤ bc ∧ 12 ≤ bs) (hj : GM Mj false [vR b, vI x, vI y] w 2 12 (dq (xR c v E1 E2 E3) w)) (h0 : c = 0) (kk : G M scr false alE (pc + 3) L (vI v :: S) w (bc - 2) (bs - 12) Q) : G M scr false alE pc L (vI y :: vI x :: vR b :: S) w bc bs Q :=
  g_vq (as := [vI x, vI y]) hok hh hlink hd hw hc rfl hent hroom hsz hb hj h0 kk
theorem g_vq3 {x y z : Int} (hok : g_okV Mj 3) (hh : mH Mj = []) (hlink : Cond.methodLink (mY M).cls idx (mY Mj) ∈ g_WS) (hd : decode (mC M) pc = .ok (.invokevirtual idx, 3)) (hw : w[b]? = some (cObj ci fs)) (hc : ∃ (T : u_T) (N : Nat), vwCl[ci]? = some ((mY Mj).cls, T, N))
    (hent : 4 ≤ mL Mj) (hroom : mF Mj + 1 ≤ mF M ∧ 8 + (mL Mj + 11) + mO Mj ≤ mO M) (hsz : g_sz S ≤ 8) (hb : 2 ≤ bc ∧ 12 ≤ bs) (hj : GM Mj false [vR b, vI x, vI y, vI z] w 2 12 (dq (xR c v E1 E2 E3) w)) (h0 : c = 0) (kk : G M scr false alE (pc + 3) L (vI v :: S) w (bc - 2) (bs - 12) Q) : G M scr false alE pc L (vI z :: vI y :: vI x :: vR b :: S) w bc bs Q :=
  g_vq (as := [vI x, vI y, vI z]) hok hh hlink hd hw hc rfl hent hroom hsz hb hj h0 kk
end
theorem ct_b2 (p : Nat → Bool) (n : Nat) : ct p (n + 1) = ct p n + b2 (p n) := rfl
theorem uat_at {σ : SG} {f : Int} {k : Nat} (hk : k < 64) (h : s_fr σ k = f) : uat σ f (ct (fun j => decide (s_fr σ j = f)) k) = 100 * ((k / 16 : Nat) : Int) + ((k % 16 : Nat) : Int) := by
  have h9 : ff (fun i => decide (s_fr σ i = f) && decide (ct (fun j => decide (s_fr σ j = f)) i = ct (fun j => decide (s_fr σ j = f)) k)) 64 = (k : Int) := by
    refine ff_some ?_ (fun j hj z => ?_) hk
    · rw [Bool.and_eq_true, decide_eq_true_eq, decide_eq_true_eq]; exact ⟨h, rfl⟩
    · rw [Bool.and_eq_true, decide_eq_true_eq, decide_eq_true_eq] at z
      have := ct_lt (p := fun j => decide (s_fr σ j = f)) hj (decide_eq_true z.1)
      omega
  unfold uat
  simp only [h9]
  rw [if_neg (by omega)]
  omega
theorem uat_end {σ : SG} {f : Int} : uat σ f (uses (s_fr σ) f) = -1 := by
  have h9 : ff (fun i => decide (s_fr σ i = f) && decide (ct (fun j => decide (s_fr σ j = f)) i = uses (s_fr σ) f)) 64 = -1 := by
    refine ff_none (fun j hj z => ?_)
    rw [Bool.and_eq_true, decide_eq_true_eq, decide_eq_true_eq] at z
    have h1 := ct_lt (p := fun j => decide (s_fr σ j = f)) hj (decide_eq_true z.1)
    have h2 : uses (s_fr σ) f = ct (fun j => decide (s_fr σ j = f)) 64 := rfl
    omega
  unfold uat
  simp only [h9]
  rfl
theorem b2_shf {σ : SG} {f : Int} (hf : 0 ≤ f) : b2 (sh σ f) = 1 ↔ 1 < uses (s_fr σ) f := by
  rw [b2_1]
  unfold sh
  rw [decide_eq_true_eq]
  exact ⟨fun h => h.2, fun h => ⟨by omega, h⟩⟩
/-- free runs among the first frames -/
def c7 (σ : SG) (f : Nat) : Int := ct (fun r => rf σ r) ((f + 3) / 4)
theorem c7_s {σ : SG} {f : Nat} : c7 σ (f + 1) = c7 σ f + b2 (decide (f % 4 = 0) && rf σ ((f / 4 : Nat) : Int)) := by
  unfold c7
  by_cases q : f % 4 = 0
  · rw [show (f + 1 + 3) / 4 = (f + 3) / 4 + 1 by omega, ct_b2, show (f + 3) / 4 = f / 4 by omega, decide_eq_true q, Bool.true_and]
  · rw [show (f + 1 + 3) / 4 = (f + 3) / 4 by omega, decide_eq_false q, Bool.false_and]
    exact (Int.add_zero _).symm
/-- big groups in this run, so far -/
def alk (σ : SG) (r : Int) (j : Nat) : Int := ct (fun h => big σ ((h / 4 : Nat) : Int) ((h % 4 : Nat) : Int) && decide ((fo σ ((h / 4 : Nat) : Int) (4 * ((h % 4 : Nat) : Int))).tdiv 4 = r)) j
theorem alk_16 {σ : SG} {r : Int} (h : ¬ r = -1) : alk σ r 16 = brun σ r := by
  refine ct_cong fun k _ => ?_
  unfold ro
  by_cases q : big σ ((k / 4 : Nat) : Int) ((k % 4 : Nat) : Int) = true
  · rw [if_pos q, q, Bool.true_and]
  · rw [if_neg q]
    have e : big σ ((k / 4 : Nat) : Int) ((k % 4 : Nat) : Int) = false := by simpa using q
    rw [e, Bool.false_and]
    symm
    exact decide_eq_false (fun z => h z.symm)
theorem alk_s {σ : SG} {r : Int} {j : Nat} : alk σ r (j + 1) = alk σ r j + b2 (big σ ((j / 4 : Nat) : Int) ((j % 4 : Nat) : Int) && decide ((fo σ ((j / 4 : Nat) : Int) (4 * ((j % 4 : Nat) : Int))).tdiv 4 = r)) := ct_b2 _ _
theorem wid_iff {σ : SG} (hi : Inv σ) {p g : Int} : wid σ p g = true ↔ big σ p g = true ∧ 0 < ps σ p g ∧ alk σ (ro σ p g) 16 = 1 := by
  unfold wid
  rw [Bool.and_eq_true, Bool.and_eq_true, decide_eq_true_eq, decide_eq_true_eq]
  constructor
  · rintro ⟨⟨a, b⟩, c⟩
    exact ⟨a, b, by rw [alk_16 (ro_b hi a)]; exact c⟩
  · rintro ⟨a, b, c⟩
    exact ⟨⟨a, b⟩, by rw [alk_16 (ro_b hi a)] at c; exact c⟩
theorem b2_bg {σ : SG} {k : Nat} (hk : k < 16) : b2 (decide (s_bg σ k = 1)) = b2 (big σ ((k / 4 : Nat) : Int) ((k % 4 : Nat) : Int)) := by
  have e : (4 * ((k / 4 : Nat) : Int) + ((k % 4 : Nat) : Int)).toNat = k := by omega
  congr 1
  unfold big
  rw [e]
  by_cases q : s_bg σ k = 1
  · rw [decide_eq_true q]
    exact (decide_eq_true ⟨by omega, by omega, by omega, by omega, q⟩).symm
  · rw [decide_eq_false q]
    exact (decide_eq_false (fun z => q z.2.2.2.2)).symm
theorem t_dm (k : Nat) (d : Nat) : (Int.tdiv (k : Int) (d : Int) = ((k / d : Nat) : Int)) ∧ Int.tmod (k : Int) (d : Int) = ((k % d : Nat) : Int) := ⟨n_dv k d, n_md k d⟩
theorem td_rng {x : Int} (h : -1 ≤ x ∧ x < 32) : -1 ≤ Int.tdiv x 4 ∧ Int.tdiv x 4 < 32 := by
  rcases (by omega : x = -1 ∨ 0 ≤ x) with rfl | q
  · decide
  · rw [Int.tdiv_eq_ediv_of_nonneg q]; omega
set_option maxRecDepth 20000 in
set_option maxHeartbeats 1000000 in
theorem t_L_same {κ : KT} {o : DT} {σ : SG} (hK : KInv κ) (hs : k_ms κ 0 = σ) : GM M_L_same false [vR 0, vR 79, vR 80, vR 81] (cW κ (lawm σ) o) 5000 30000 (dt (some (vI 1)) (cW κ (lawm σ) o)) := by
  have hi : Inv σ := hs ▸ hK.2.2.1 0
  show G _ none _ _ 0 [some (vR 0), some (vR 79), some (vR 80), some (vR 81), none, none, none, none, none, none, none, none, none, none, none, none] [] _ _ _ _
  refine g_iconst (pc := 0) dL_same_0 ?_
  refine g_istore (pc := 1) dL_same_1 (by decide) rfl ?_
  simp only [List.set_cons_succ, List.set_cons_zero]
  refine g_iconst (pc := 3) dL_same_3 ?_
  refine g_istore (pc := 4) dL_same_4 (by decide) rfl ?_
  simp only [List.set_cons_succ, List.set_cons_zero]
  refine g_iconst (pc := 6) dL_same_6 ?_
  refine g_istore (pc := 7) dL_same_7 (by decide) rfl ?_
  simp only [List.set_cons_succ, List.set_cons_zero]
  refine g_iconst (pc := 9) dL_same_9 ?_
  refine g_istore (pc := 10) dL_same_10 (by decide) rfl ?_
  simp only [List.set_cons_succ, List.set_cons_zero]
  refine g_iconst (pc := 12) dL_same_12 ?_
  refine g_istore (pc := 13) dL_same_13 (by decide) rfl ?_
  simp only [List.set_cons_succ, List.set_cons_zero]
  refine G.bud (bc := 130 * (32 - 0) + 800) (bs := 6 * (130 * (32 - 0) + 800)) ?_ (by omega) (by omega)
  refine lp_up (P := fun f => G M_L_same none false false 15 [some (vR 0), some (vR 79), some (vR 80), some (vR 81), some (vI (0)), some (vI (0)), some (vI (ct (fun f => sh σ f) (f))), some (vI (c7 σ (f))), some (vI ((f : Int))), none, none, none, none, none, none, none] [] (cW κ (lawm σ) o) (130 * (32 - f) + 800) (6 * (130 * (32 - f) + 800)) (dt (some (vI 1)) (cW κ (lawm σ) o))) 32 ?_ ?_ 0 (Nat.zero_le _)
  · refine G.eqL (L' := [some (vR 0), some (vR 79), some (vR 80), some (vR 81), some (vI (0)), some (vI (0)), some (vI (nsf σ)), some (vI (nfr σ)), some (vI (((32 : Nat) : Int))), none, none, none, none, none, none, none]) rfl ?_
    refine g_iload (pc := 15) dL_same_15 rfl ?_
    refine g_bipush (pc := 17) dL_same_17 (by decide) ?_
    refine g_c_ge (tgt := 152) (pc := 19) dL_same_19 (by omega) (by decide) (fun c19 => ?_) (fun c19 => absurd c19 (by omega))
    refine g_iconst (pc := 152) dL_same_152 ?_
    refine g_istore (pc := 153) dL_same_153 (by decide) rfl ?_
    simp only [List.set_cons_succ, List.set_cons_zero]
    refine G.bud (bc := 44 * (16 - 0) + 22) (bs := 6 * (44 * (16 - 0) + 22)) ?_ (by omega) (by omega)
    refine lp_up (P := fun g => G M_L_same none false false 155 [some (vR 0), some (vR 79), some (vR 80), some (vR 81), some (vI (ct (fun k => decide (s_bg σ k = 1)) (g))), some (vI (ct (fun k => wid σ ((k / 4 : Nat) : Int) ((k % 4 : Nat) : Int)) (g))), some (vI (nsf σ)), some (vI (nfr σ)), some (vI ((g : Int))), none, none, none, none, none, none, none] [] (cW κ (lawm σ) o) (44 * (16 - g) + 22) (6 * (44 * (16 - g) + 22)) (dt (some (vI 1)) (cW κ (lawm σ) o))) 16 ?_ ?_ 0 (Nat.zero_le _)
    · refine G.eqL (L' := [some (vR 0), some (vR 79), some (vR 80), some (vR 81), some (vI (nbg σ)), some (vI (nwid σ)), some (vI (nsf σ)), some (vI (nfr σ)), some (vI (((16 : Nat) : Int))), none, none, none, none, none, none, none]) rfl ?_
      refine g_iload (pc := 155) dL_same_155 rfl ?_
      refine g_bipush (pc := 157) dL_same_157 (by decide) ?_
      refine g_c_ge (tgt := 645) (pc := 159) dL_same_159 (by omega) (by decide) (fun c159 => ?_) (fun c159 => absurd c159 (by omega))
      have q0 := ex_rng hi
      have q1 := nff_rng σ
      have q2 := nfr_rng σ
      have q3 := nbg_rng σ
      have q4 := nwid_rng σ
      have q5 := nsf_rng σ
      have q6 := hi.2.2.2.2.2.2.2.2.1
      refine g_aload_n (i := 0) (pc := 645) dL_same_645 rfl rfl ?_
      refine g_iconst (pc := 646) dL_same_646 ?_
      refine g_vq1 (pc := 647) okV_X3_about rfl l_L_90 dL_same_647 c_0 hc_3 (by decide) (by decide) (Nat.le_of_ble_eq_true rfl) ⟨by omega, by omega⟩ (hs ▸ t_X3_about hK (x := 0) (by omega)) (by unfold xc_ab; rw [if_pos (by omega)]) ?_
      refine G.eqS (congrArg (fun z => vI z) (show ab σ 0 = bsum (s_ex σ) 4 from rfl)) ?_
      refine g_aload_n (i := 1) (pc := 650) dL_same_650 rfl rfl ?_
      refine g_iconst (pc := 651) dL_same_651 ?_
      refine g_iald (pc := 652) dL_same_652 (c_79) (by omega) ?_
      refine G.eqS (v' := vI (bsum (s_ex σ) 4)) rfl ?_
      refine g_c_ne (tgt := 773) (pc := 653) dL_same_653 (by omega) (by decide) (fun c653 => absurd c653 (by omega)) (fun c653 => ?_)
      refine g_aload_n (i := 0) (pc := 656) dL_same_656 rfl rfl ?_
      refine g_iconst (pc := 657) dL_same_657 ?_
      refine g_vq1 (pc := 658) okV_X3_about rfl l_L_90 dL_same_658 c_0 hc_3 (by decide) (by decide) (Nat.le_of_ble_eq_true rfl) ⟨by omega, by omega⟩ (hs ▸ t_X3_about hK (x := 1) (by omega)) (by unfold xc_ab; rw [if_pos (by omega)]) ?_
      refine G.eqS (congrArg (fun z => vI z) (show ab σ 1 = nff σ from rfl)) ?_
      refine g_aload_n (i := 2) (pc := 661) dL_same_661 rfl rfl ?_
      refine g_sR (pc := 662) okS_L_free rfl l_L_72 dL_same_662 (by decide) (by decide) (Nat.le_of_ble_eq_true rfl) (t_L_free (σ := σ) c_80 hi) rfl ?_
      simp only [Option.toList, List.cons_append, List.nil_append]
      have bb := nff_rng σ
      refine g_c_ne (tgt := 773) (pc := 665) dL_same_665 (by omega) (by decide) (fun c665 => absurd c665 (by omega)) (fun c665 => ?_)
      refine g_aload_n (i := 0) (pc := 668) dL_same_668 rfl rfl ?_
      refine g_iconst (pc := 669) dL_same_669 ?_
      refine g_vq1 (pc := 670) okV_X3_about rfl l_L_90 dL_same_670 c_0 hc_3 (by decide) (by decide) (Nat.le_of_ble_eq_true rfl) ⟨by omega, by omega⟩ (hs ▸ t_X3_about hK (x := 2) (by omega)) (by unfold xc_ab; rw [if_pos (by omega)]) ?_
      refine G.eqS (congrArg (fun z => vI z) (show ab σ 2 = nfr σ from rfl)) ?_
      refine g_iload (pc := 673) dL_same_673 rfl ?_
      refine g_c_ne (tgt := 773) (pc := 675) dL_same_675 (by omega) (by decide) (fun c675 => absurd c675 (by omega)) (fun c675 => ?_)
      refine g_aload_n (i := 0) (pc := 678) dL_same_678 rfl rfl ?_
      refine g_iconst (pc := 679) dL_same_679 ?_
      refine g_vq1 (pc := 680) okV_X3_about rfl l_L_90 dL_same_680 c_0 hc_3 (by decide) (by decide) (Nat.le_of_ble_eq_true rfl) ⟨by omega, by omega⟩ (hs ▸ t_X3_about hK (x := 3) (by omega)) (by unfold xc_ab; rw [if_pos (by omega)]) ?_
      refine G.eqS (congrArg (fun z => vI z) (show ab σ 3 = nbg σ from rfl)) ?_
      refine g_iload (pc := 683) dL_same_683 rfl ?_
      refine g_c_ne (tgt := 773) (pc := 685) dL_same_685 (by omega) (by decide) (fun c685 => absurd c685 (by omega)) (fun c685 => ?_)
      refine g_aload_n (i := 0) (pc := 688) dL_same_688 rfl rfl ?_
      refine g_iconst (pc := 689) dL_same_689 ?_
      refine g_vq1 (pc := 690) okV_X3_about rfl l_L_90 dL_same_690 c_0 hc_3 (by decide) (by decide) (Nat.le_of_ble_eq_true rfl) ⟨by omega, by omega⟩ (hs ▸ t_X3_about hK (x := 4) (by omega)) (by unfold xc_ab; rw [if_pos (by omega)]) ?_
      refine G.eqS (congrArg (fun z => vI z) (show ab σ 4 = nwid σ from rfl)) ?_
      refine g_iload (pc := 693) dL_same_693 rfl ?_
      refine g_c_ne (tgt := 773) (pc := 695) dL_same_695 (by omega) (by decide) (fun c695 => absurd c695 (by omega)) (fun c695 => ?_)
      refine g_aload_n (i := 0) (pc := 698) dL_same_698 rfl rfl ?_
      refine g_iconst (pc := 699) dL_same_699 ?_
      refine g_vq1 (pc := 700) okV_X3_about rfl l_L_90 dL_same_700 c_0 hc_3 (by decide) (by decide) (Nat.le_of_ble_eq_true rfl) ⟨by omega, by omega⟩ (hs ▸ t_X3_about hK (x := 5) (by omega)) (by unfold xc_ab; rw [if_pos (by omega)]) ?_
      refine G.eqS (congrArg (fun z => vI z) (show ab σ 5 = nsf σ from rfl)) ?_
      refine g_iload (pc := 703) dL_same_703 rfl ?_
      refine g_c_ne (tgt := 773) (pc := 705) dL_same_705 (by omega) (by decide) (fun c705 => absurd c705 (by omega)) (fun c705 => ?_)
      refine g_aload_n (i := 0) (pc := 708) dL_same_708 rfl rfl ?_
      refine g_bipush (pc := 709) dL_same_709 (by decide) ?_
      refine g_vq1 (pc := 711) okV_X3_about rfl l_L_90 dL_same_711 c_0 hc_3 (by decide) (by decide) (Nat.le_of_ble_eq_true rfl) ⟨by omega, by omega⟩ (hs ▸ t_X3_about hK (x := 6) (by omega)) (by unfold xc_ab; rw [if_pos (by omega)]) ?_
      refine G.eqS (congrArg (fun z => vI z) (show ab σ 6 = s_co σ from rfl)) ?_
      refine g_wr ?_
      refine g_aload_n (i := 1) (pc := 714) dL_same_714 rfl rfl ?_
      refine g_iconst (pc := 715) dL_same_715 ?_
      refine g_iald (pc := 716) dL_same_716 (c_79) (by omega) ?_
      refine G.eqS (v' := vI (s_co σ)) rfl ?_
      refine g_wr ?_
      have wr717 := wr_rng (s_co σ)
      refine g_c_ne (tgt := 773) (pc := 717) dL_same_717 (by omega) (by decide) (fun c717 => absurd c717 (by omega)) (fun c717 => ?_)
      refine g_aload_n (i := 0) (pc := 720) dL_same_720 rfl rfl ?_
      refine g_bipush (pc := 721) dL_same_721 (by decide) ?_
      refine g_vq1 (pc := 723) okV_X3_about rfl l_L_90 dL_same_723 c_0 hc_3 (by decide) (by decide) (Nat.le_of_ble_eq_true rfl) ⟨by omega, by omega⟩ (hs ▸ t_X3_about hK (x := 7) (by omega)) (by unfold xc_ab; rw [if_pos (by omega)]) ?_
      refine G.eqS (congrArg (fun z => vI z) (show ab σ 7 = s_fa σ from rfl)) ?_
      refine g_wr ?_
      refine g_aload_n (i := 1) (pc := 726) dL_same_726 rfl rfl ?_
      refine g_iconst (pc := 727) dL_same_727 ?_
      refine g_iald (pc := 728) dL_same_728 (c_79) (by omega) ?_
      refine G.eqS (v' := vI (s_fa σ)) rfl ?_
      refine g_wr ?_
      have wr729 := wr_rng (s_fa σ)
      refine g_c_ne (tgt := 773) (pc := 729) dL_same_729 (by omega) (by decide) (fun c729 => absurd c729 (by omega)) (fun c729 => ?_)
      refine g_aload_n (i := 0) (pc := 732) dL_same_732 rfl rfl ?_
      refine g_bipush (pc := 733) dL_same_733 (by decide) ?_
      refine g_vq1 (pc := 735) okV_X3_about rfl l_L_90 dL_same_735 c_0 hc_3 (by decide) (by decide) (Nat.le_of_ble_eq_true rfl) ⟨by omega, by omega⟩ (hs ▸ t_X3_about hK (x := 8) (by omega)) (by unfold xc_ab; rw [if_pos (by omega)]) ?_
      refine G.eqS (congrArg (fun z => vI z) (show ab σ 8 = s_te σ from rfl)) ?_
      refine g_wr ?_
      refine g_aload_n (i := 1) (pc := 738) dL_same_738 rfl rfl ?_
      refine g_iconst (pc := 739) dL_same_739 ?_
      refine g_iald (pc := 740) dL_same_740 (c_79) (by omega) ?_
      refine G.eqS (v' := vI (s_te σ)) rfl ?_
      refine g_wr ?_
      have wr741 := wr_rng (s_te σ)
      refine g_c_ne (tgt := 773) (pc := 741) dL_same_741 (by omega) (by decide) (fun c741 => absurd c741 (by omega)) (fun c741 => ?_)
      refine g_aload_n (i := 0) (pc := 744) dL_same_744 rfl rfl ?_
      refine g_bipush (pc := 745) dL_same_745 (by decide) ?_
      refine g_vq1 (pc := 747) okV_X3_about rfl l_L_90 dL_same_747 c_0 hc_3 (by decide) (by decide) (Nat.le_of_ble_eq_true rfl) ⟨by omega, by omega⟩ (hs ▸ t_X3_about hK (x := 9) (by omega)) (by unfold xc_ab; rw [if_pos (by omega)]) ?_
      refine G.eqS (congrArg (fun z => vI z) (show ab σ 9 = s_lo σ from rfl)) ?_
      refine g_wr ?_
      refine g_aload_n (i := 1) (pc := 750) dL_same_750 rfl rfl ?_
      refine g_iconst (pc := 751) dL_same_751 ?_
      refine g_iald (pc := 752) dL_same_752 (c_79) (by omega) ?_
      refine G.eqS (v' := vI (s_lo σ)) rfl ?_
      refine g_wr ?_
      have wr753 := wr_rng (s_lo σ)
      refine g_c_ne (tgt := 773) (pc := 753) dL_same_753 (by omega) (by decide) (fun c753 => absurd c753 (by omega)) (fun c753 => ?_)
      refine g_aload_n (i := 0) (pc := 756) dL_same_756 rfl rfl ?_
      refine g_bipush (pc := 757) dL_same_757 (by decide) ?_
      refine g_vq1 (pc := 759) okV_X3_about rfl l_L_90 dL_same_759 c_0 hc_3 (by decide) (by decide) (Nat.le_of_ble_eq_true rfl) ⟨by omega, by omega⟩ (hs ▸ t_X3_about hK (x := 10) (by omega)) (by unfold xc_ab; rw [if_pos (by omega)]) ?_
      refine G.eqS (congrArg (fun z => vI z) (show ab σ 10 = s_ea σ from rfl)) ?_
      refine g_aload_n (i := 1) (pc := 762) dL_same_762 rfl rfl ?_
      refine g_bipush (pc := 763) dL_same_763 (by decide) ?_
      refine g_iald (pc := 765) dL_same_765 (c_79) (by omega) ?_
      refine G.eqS (v' := vI (s_ea σ)) rfl ?_
      refine g_c_ne (tgt := 773) (pc := 766) dL_same_766 (by omega) (by decide) (fun c766 => absurd c766 (by omega)) (fun c766 => ?_)
      refine g_iconst (pc := 769) dL_same_769 ?_
      refine g_goto (tgt := 774) (pc := 770) dL_same_770 (by decide) ?_
      refine g_zret (pc := 774) rfl dL_same_774 (by omega) (fun h => h) ?_
      exact dt_i rfl rfl
    · intro g hg ih
      show G _ _ _ _ _ _ _ _ _ _ _
      have hgp : (0 ≤ ((g / 4 : Nat) : Int) ∧ ((g / 4 : Nat) : Int) < 4) ∧ 0 ≤ ((g % 4 : Nat) : Int) ∧ ((g % 4 : Nat) : Int) < 4 := by omega
      have hG : (g : Int) = 4 * ((g / 4 : Nat) : Int) + ((g % 4 : Nat) : Int) := by omega
      refine g_iload (pc := 155) dL_same_155 rfl ?_
      refine g_bipush (pc := 157) dL_same_157 (by decide) ?_
      refine g_c_ge (tgt := 645) (pc := 159) dL_same_159 (by omega) (by decide) (fun c159 => absurd c159 (by omega)) (fun c159 => ?_)
      refine g_aload_n (i := 1) (pc := 162) dL_same_162 rfl rfl ?_
      refine g_iconst (pc := 163) dL_same_163 ?_
      refine g_iald (pc := 164) dL_same_164 (c_79) (by omega) ?_
      refine G.eqS (v' := vI (bsum (s_ex σ) 4)) rfl ?_
      refine g_iload (pc := 165) dL_same_165 rfl ?_
      refine g_iconst (pc := 167) dL_same_167 ?_
      refine g_idiv (pc := 168) dL_same_168 (by omega) (by omega) ?_
      refine g_ishr (pc := 169) dL_same_169 ?_
      refine g_iconst (pc := 170) dL_same_170 ?_
      refine g_iand (pc := 171) dL_same_171 ?_
      refine G.eqS (congrArg (fun z => vI z) ((congrArg (fun z => b_and (b_shr (bsum (s_ex σ) 4) z) 1) (n_dv g 4)).trans (bit_ex hi (p := ((g / 4 : Nat) : Int)) hgp.1))) ?_
      have x9 := b2_rng (hasP σ ((g / 4 : Nat) : Int))
      refine g_z_ne (tgt := 178) (pc := 172) dL_same_172 (by omega) (by decide) (fun c172 => ?_) (fun c172 => ?_)
      · skip
        have hP := b2_1.mp (show b2 (hasP σ ((g / 4 : Nat) : Int)) = 1 by omega)
        have hgr : hasGr σ ((g / 4 : Nat) : Int) ((g % 4 : Nat) : Int) = true := by rw [hasGr, Bool.and_eq_true, decide_eq_true_eq]; exact ⟨hP, by omega⟩
        refine g_aload_n (i := 1) (pc := 178) dL_same_178 rfl rfl ?_
        refine g_iconst (pc := 179) dL_same_179 ?_
        refine g_iald (pc := 180) dL_same_180 (c_79) (by omega) ?_
        refine G.eqS (v' := vI (bsum (s_bg σ) 16)) rfl ?_
        refine g_iload (pc := 181) dL_same_181 rfl ?_
        refine g_ishr (pc := 183) dL_same_183 ?_
        refine g_iconst (pc := 184) dL_same_184 ?_
        refine g_iand (pc := 185) dL_same_185 ?_
        refine G.eqS (congrArg (fun z => vI z) (bit_bg (σ := σ) hi (p := ((g / 4 : Nat) : Int)) (g := ((g % 4 : Nat) : Int)) hG hgp.1 hgp.2)) ?_
        have b8 := b2_rng (big σ ((g / 4 : Nat) : Int) ((g % 4 : Nat) : Int))
        refine g_iconst (pc := 186) dL_same_186 ?_
        refine G.join2 (T := 195) (v := b2 (big σ ((g / 4 : Nat) : Int) ((g % 4 : Nat) : Int))) ?_ (fun J => ?_)
        · skip
          have b8 := b2_rng (big σ ((g / 4 : Nat) : Int) ((g % 4 : Nat) : Int))
          refine g_istore (pc := 195) dL_same_195 (by decide) rfl ?_
          simp only [List.set_cons_succ, List.set_cons_zero]
          refine g_iload (pc := 197) dL_same_197 rfl ?_
          refine G.join1 (T := 216) (v := ro σ ((g / 4 : Nat) : Int) ((g % 4 : Nat) : Int)) ?_ (fun J => ?_)
          · skip
            have ror := ro_rng hi ((g / 4 : Nat) : Int) ((g % 4 : Nat) : Int)
            refine g_istore (pc := 216) dL_same_216 (by decide) rfl ?_
            simp only [List.set_cons_succ, List.set_cons_zero]
            refine g_iconst (pc := 218) dL_same_218 ?_
            refine g_istore (pc := 219) dL_same_219 (by decide) rfl ?_
            simp only [List.set_cons_succ, List.set_cons_zero]
            refine g_iconst (pc := 221) dL_same_221 ?_
            refine g_istore (pc := 222) dL_same_222 (by decide) rfl ?_
            simp only [List.set_cons_succ, List.set_cons_zero]
            refine g_iconst (pc := 224) dL_same_224 ?_
            refine g_istore (pc := 225) dL_same_225 (by decide) rfl ?_
            simp only [List.set_cons_succ, List.set_cons_zero]
            refine g_iconst (pc := 227) dL_same_227 ?_
            refine g_iload (pc := 228) dL_same_228 rfl ?_
            refine g_imul (pc := 230) dL_same_230 ?_
            refine g_istore (pc := 231) dL_same_231 (by decide) rfl ?_
            simp only [List.set_cons_succ, List.set_cons_zero]
            refine G.eqL (congrArg (fun z => [some (vR 0), some (vR 79), some (vR 80), some (vR 81), some (vI (ct (fun k => decide (s_bg σ k = 1)) (g))), some (vI (ct (fun k => wid σ ((k / 4 : Nat) : Int) ((k % 4 : Nat) : Int)) (g))), some (vI (nsf σ)), some (vI (nfr σ)), some (vI ((g : Int))), some (vI (b2 (big σ ((g / 4 : Nat) : Int) ((g % 4 : Nat) : Int)))), some (vI (ro σ ((g / 4 : Nat) : Int) ((g % 4 : Nat) : Int))), some (vI (0)), some (vI (0)), some (vI (0)), some (vI z), none]) (show 4 * (g : Int) = 4 * (g : Int) + ((0 : Nat) : Int) by omega)) ?_
            refine G.bud (bc := 8 * (4 - 0) + 12 + 44 * (15 - g) + 22) (bs := 6 * (8 * (4 - 0) + 12 + 44 * (15 - g) + 22)) ?_ (by omega) (by omega)
            refine lp_up (P := fun j => G M_L_same none false false 233 [some (vR 0), some (vR 79), some (vR 80), some (vR 81), some (vI (ct (fun k => decide (s_bg σ k = 1)) (g))), some (vI (ct (fun k => wid σ ((k / 4 : Nat) : Int) ((k % 4 : Nat) : Int)) (g))), some (vI (nsf σ)), some (vI (nfr σ)), some (vI ((g : Int))), some (vI (b2 (big σ ((g / 4 : Nat) : Int) ((g % 4 : Nat) : Int)))), some (vI (ro σ ((g / 4 : Nat) : Int) ((g % 4 : Nat) : Int))), some (vI (ct (fun i : Nat => decide (fo σ ((g / 4 : Nat) : Int) (4 * ((g % 4 : Nat) : Int) + i) ≠ -1)) (j))), some (vI (ct (fun i : Nat => sh σ (fo σ ((g / 4 : Nat) : Int) (4 * ((g % 4 : Nat) : Int) + i))) (j))), some (vI (0)), some (vI (4 * (g : Int) + (j : Int))), none] [] (cW κ (lawm σ) o) (8 * (4 - j) + 12 + 44 * (15 - g) + 22) (6 * (8 * (4 - j) + 12 + 44 * (15 - g) + 22)) (dt (some (vI 1)) (cW κ (lawm σ) o))) 4 ?_ ?_ 0 (Nat.zero_le _)
            · refine G.eqL (L' := [some (vR 0), some (vR 79), some (vR 80), some (vR 81), some (vI (ct (fun k => decide (s_bg σ k = 1)) (g))), some (vI (ct (fun k => wid σ ((k / 4 : Nat) : Int) ((k % 4 : Nat) : Int)) (g))), some (vI (nsf σ)), some (vI (nfr σ)), some (vI ((g : Int))), some (vI (b2 (big σ ((g / 4 : Nat) : Int) ((g % 4 : Nat) : Int)))), some (vI (ro σ ((g / 4 : Nat) : Int) ((g % 4 : Nat) : Int))), some (vI (pf σ ((g / 4 : Nat) : Int) ((g % 4 : Nat) : Int))), some (vI (ps σ ((g / 4 : Nat) : Int) ((g % 4 : Nat) : Int))), some (vI (0)), some (vI (4 * (g : Int) + ((4 : Nat) : Int))), none]) rfl ?_
              refine g_iload (pc := 233) dL_same_233 rfl ?_
              refine g_iconst (pc := 235) dL_same_235 ?_
              refine g_iload (pc := 236) dL_same_236 rfl ?_
              refine g_imul (pc := 238) dL_same_238 ?_
              refine g_iconst (pc := 239) dL_same_239 ?_
              refine g_iadd (pc := 240) dL_same_240 ?_
              refine g_c_ge (tgt := 403) (pc := 241) dL_same_241 (by omega) (by decide) (fun c241 => ?_) (fun c241 => absurd c241 (by omega))
              refine g_iconst (pc := 403) dL_same_403 ?_
              refine g_istore (pc := 404) dL_same_404 (by decide) rfl ?_
              simp only [List.set_cons_succ, List.set_cons_zero]
              refine G.bud (bc := 12 + 44 * (15 - g) + 22) (bs := 6 * (12 + 44 * (15 - g) + 22)) ?_ (by omega) (by omega)
              refine lp_up (P := fun h => G M_L_same none false false 406 [some (vR 0), some (vR 79), some (vR 80), some (vR 81), some (vI (ct (fun k => decide (s_bg σ k = 1)) (g))), some (vI (ct (fun k => wid σ ((k / 4 : Nat) : Int) ((k % 4 : Nat) : Int)) (g))), some (vI (nsf σ)), some (vI (nfr σ)), some (vI ((g : Int))), some (vI (b2 (big σ ((g / 4 : Nat) : Int) ((g % 4 : Nat) : Int)))), some (vI (ro σ ((g / 4 : Nat) : Int) ((g % 4 : Nat) : Int))), some (vI (pf σ ((g / 4 : Nat) : Int) ((g % 4 : Nat) : Int))), some (vI (ps σ ((g / 4 : Nat) : Int) ((g % 4 : Nat) : Int))), some (vI (alk σ (ro σ ((g / 4 : Nat) : Int) ((g % 4 : Nat) : Int)) h)), some (vI ((h : Int))), none] [] (cW κ (lawm σ) o) (12 + 44 * (15 - g) + 22) (6 * (12 + 44 * (15 - g) + 22)) (dt (some (vI 1)) (cW κ (lawm σ) o))) 16 ?_ ?_ 0 (Nat.zero_le _)
              · show G _ _ _ _ _ _ _ _ _ _ _
                have al9 := ct_rng (fun h => big σ ((h / 4 : Nat) : Int) ((h % 4 : Nat) : Int) && decide ((fo σ ((h / 4 : Nat) : Int) (4 * ((h % 4 : Nat) : Int))).tdiv 4 = ro σ ((g / 4 : Nat) : Int) ((g % 4 : Nat) : Int))) 16
                have al8 : alk σ (ro σ ((g / 4 : Nat) : Int) ((g % 4 : Nat) : Int)) 16 = ct (fun h => big σ ((h / 4 : Nat) : Int) ((h % 4 : Nat) : Int) && decide ((fo σ ((h / 4 : Nat) : Int) (4 * ((h % 4 : Nat) : Int))).tdiv 4 = ro σ ((g / 4 : Nat) : Int) ((g % 4 : Nat) : Int))) 16 := rfl
                have ps9 := ps_rng σ ((g / 4 : Nat) : Int) ((g % 4 : Nat) : Int)
                have pf9 := pf_rng σ ((g / 4 : Nat) : Int) ((g % 4 : Nat) : Int)
                have w8 := b2_rng (wid σ ((g / 4 : Nat) : Int) ((g % 4 : Nat) : Int))
                have w7 := wid_iff (σ := σ) hi (p := ((g / 4 : Nat) : Int)) (g := ((g % 4 : Nat) : Int))
                refine g_iload (pc := 406) dL_same_406 rfl ?_
                refine g_bipush (pc := 408) dL_same_408 (by decide) ?_
                refine g_c_ge (tgt := 456) (pc := 410) dL_same_410 (by omega) (by decide) (fun c410 => ?_) (fun c410 => absurd c410 (by omega))
                refine g_iload (pc := 456) dL_same_456 rfl ?_
                refine G.join1 (T := 477) (v := b2 (wid σ ((g / 4 : Nat) : Int) ((g % 4 : Nat) : Int))) ?_ (fun J => ?_)
                · skip
                  refine g_istore (pc := 477) dL_same_477 (by decide) rfl ?_
                  simp only [List.set_cons_succ, List.set_cons_zero]
                  refine g_iload (pc := 479) dL_same_479 rfl ?_
                  refine g_iload (pc := 481) dL_same_481 rfl ?_
                  refine G.join1 (T := 491) (v := b2 (big σ ((g / 4 : Nat) : Int) ((g % 4 : Nat) : Int))) ?_ (fun J => ?_)
                  · skip
                    refine g_iadd (pc := 491) dL_same_491 ?_
                    refine g_istore (pc := 492) dL_same_492 (by decide) rfl ?_
                    simp only [List.set_cons_succ, List.set_cons_zero]
                    refine g_iload (pc := 494) dL_same_494 rfl ?_
                    refine g_iload (pc := 496) dL_same_496 rfl ?_
                    refine G.join1 (T := 506) (v := b2 (wid σ ((g / 4 : Nat) : Int) ((g % 4 : Nat) : Int))) ?_ (fun J => ?_)
                    · skip
                      refine g_iadd (pc := 506) dL_same_506 ?_
                      refine g_istore (pc := 507) dL_same_507 (by decide) rfl ?_
                      simp only [List.set_cons_succ, List.set_cons_zero]
                      refine g_aload_n (i := 0) (pc := 509) dL_same_509 rfl rfl ?_
                      refine g_iload (pc := 510) dL_same_510 rfl ?_
                      refine g_iconst (pc := 512) dL_same_512 ?_
                      refine g_idiv (pc := 513) dL_same_513 (by omega) (by omega) ?_
                      refine G.eqS (congrArg (fun z => vI z) ((show Int.tdiv (g : Int) ((4 : Nat) : Int) = ((g / 4 : Nat) : Int) from n_dv g 4))) ?_
                      refine g_iload (pc := 514) dL_same_514 rfl ?_
                      refine g_iconst (pc := 516) dL_same_516 ?_
                      refine g_irem (pc := 517) dL_same_517 (by omega) (by omega) ?_
                      refine G.eqS (congrArg (fun z => vI z) ((show Int.tmod (g : Int) ((4 : Nat) : Int) = ((g % 4 : Nat) : Int) from n_md g 4))) ?_
                      refine g_iconst (pc := 518) dL_same_518 ?_
                      refine g_vq3 (pc := 519) okV_X3_group rfl l_L_84 dL_same_519 c_0 hc_3 (by decide) (by decide) (Nat.le_of_ble_eq_true rfl) ⟨by omega, by omega⟩ (hs ▸ t_X3_group hK (x := 0) (by omega) (by omega) (by omega)) (by unfold xc_gr; rw [if_pos hgr, if_pos (by omega)]) ?_
                      refine G.eqS (congrArg (fun z => vI z) (show grv σ ((g / 4 : Nat) : Int) ((g % 4 : Nat) : Int) 0 = pf σ ((g / 4 : Nat) : Int) ((g % 4 : Nat) : Int) from rfl)) ?_
                      refine g_iload (pc := 522) dL_same_522 rfl ?_
                      refine g_c_ne (tgt := 637) (pc := 524) dL_same_524 (by omega) (by decide) (fun c524 => absurd c524 (by omega)) (fun c524 => ?_)
                      refine g_aload_n (i := 0) (pc := 527) dL_same_527 rfl rfl ?_
                      refine g_iload (pc := 528) dL_same_528 rfl ?_
                      refine g_iconst (pc := 530) dL_same_530 ?_
                      refine g_idiv (pc := 531) dL_same_531 (by omega) (by omega) ?_
                      refine G.eqS (congrArg (fun z => vI z) ((show Int.tdiv (g : Int) ((4 : Nat) : Int) = ((g / 4 : Nat) : Int) from n_dv g 4))) ?_
                      refine g_iload (pc := 532) dL_same_532 rfl ?_
                      refine g_iconst (pc := 534) dL_same_534 ?_
                      refine g_irem (pc := 535) dL_same_535 (by omega) (by omega) ?_
                      refine G.eqS (congrArg (fun z => vI z) ((show Int.tmod (g : Int) ((4 : Nat) : Int) = ((g % 4 : Nat) : Int) from n_md g 4))) ?_
                      refine g_iconst (pc := 536) dL_same_536 ?_
                      refine g_vq3 (pc := 537) okV_X3_group rfl l_L_84 dL_same_537 c_0 hc_3 (by decide) (by decide) (Nat.le_of_ble_eq_true rfl) ⟨by omega, by omega⟩ (hs ▸ t_X3_group hK (x := 1) (by omega) (by omega) (by omega)) (by unfold xc_gr; rw [if_pos hgr, if_pos (by omega)]) ?_
                      refine G.eqS (congrArg (fun z => vI z) (show grv σ ((g / 4 : Nat) : Int) ((g % 4 : Nat) : Int) 1 = b2 (big σ ((g / 4 : Nat) : Int) ((g % 4 : Nat) : Int)) from rfl)) ?_
                      refine g_iload (pc := 540) dL_same_540 rfl ?_
                      refine G.join1 (T := 550) (v := b2 (big σ ((g / 4 : Nat) : Int) ((g % 4 : Nat) : Int))) ?_ (fun J => ?_)
                      · skip
                        refine g_c_ne (tgt := 637) (pc := 550) dL_same_550 (by omega) (by decide) (fun c550 => absurd c550 (by omega)) (fun c550 => ?_)
                        refine g_aload_n (i := 0) (pc := 553) dL_same_553 rfl rfl ?_
                        refine g_iload (pc := 554) dL_same_554 rfl ?_
                        refine g_iconst (pc := 556) dL_same_556 ?_
                        refine g_idiv (pc := 557) dL_same_557 (by omega) (by omega) ?_
                        refine G.eqS (congrArg (fun z => vI z) ((show Int.tdiv (g : Int) ((4 : Nat) : Int) = ((g / 4 : Nat) : Int) from n_dv g 4))) ?_
                        refine g_iload (pc := 558) dL_same_558 rfl ?_
                        refine g_iconst (pc := 560) dL_same_560 ?_
                        refine g_irem (pc := 561) dL_same_561 (by omega) (by omega) ?_
                        refine G.eqS (congrArg (fun z => vI z) ((show Int.tmod (g : Int) ((4 : Nat) : Int) = ((g % 4 : Nat) : Int) from n_md g 4))) ?_
                        refine g_iconst (pc := 562) dL_same_562 ?_
                        refine g_vq3 (pc := 563) okV_X3_group rfl l_L_84 dL_same_563 c_0 hc_3 (by decide) (by decide) (Nat.le_of_ble_eq_true rfl) ⟨by omega, by omega⟩ (hs ▸ t_X3_group hK (x := 2) (by omega) (by omega) (by omega)) (by unfold xc_gr; rw [if_pos hgr, if_pos (by omega)]) ?_
                        refine G.eqS (congrArg (fun z => vI z) (show grv σ ((g / 4 : Nat) : Int) ((g % 4 : Nat) : Int) 2 = b2 (wid σ ((g / 4 : Nat) : Int) ((g % 4 : Nat) : Int)) from rfl)) ?_
                        refine g_iload (pc := 566) dL_same_566 rfl ?_
                        refine G.join1 (T := 576) (v := b2 (wid σ ((g / 4 : Nat) : Int) ((g % 4 : Nat) : Int))) ?_ (fun J => ?_)
                        · skip
                          refine g_c_ne (tgt := 637) (pc := 576) dL_same_576 (by omega) (by decide) (fun c576 => absurd c576 (by omega)) (fun c576 => ?_)
                          refine g_aload_n (i := 0) (pc := 579) dL_same_579 rfl rfl ?_
                          refine g_iload (pc := 580) dL_same_580 rfl ?_
                          refine g_iconst (pc := 582) dL_same_582 ?_
                          refine g_idiv (pc := 583) dL_same_583 (by omega) (by omega) ?_
                          refine G.eqS (congrArg (fun z => vI z) ((show Int.tdiv (g : Int) ((4 : Nat) : Int) = ((g / 4 : Nat) : Int) from n_dv g 4))) ?_
                          refine g_iload (pc := 584) dL_same_584 rfl ?_
                          refine g_iconst (pc := 586) dL_same_586 ?_
                          refine g_irem (pc := 587) dL_same_587 (by omega) (by omega) ?_
                          refine G.eqS (congrArg (fun z => vI z) ((show Int.tmod (g : Int) ((4 : Nat) : Int) = ((g % 4 : Nat) : Int) from n_md g 4))) ?_
                          refine g_iconst (pc := 588) dL_same_588 ?_
                          refine g_vq3 (pc := 589) okV_X3_group rfl l_L_84 dL_same_589 c_0 hc_3 (by decide) (by decide) (Nat.le_of_ble_eq_true rfl) ⟨by omega, by omega⟩ (hs ▸ t_X3_group hK (x := 3) (by omega) (by omega) (by omega)) (by unfold xc_gr; rw [if_pos hgr, if_pos (by omega)]) ?_
                          refine G.eqS (congrArg (fun z => vI z) (show grv σ ((g / 4 : Nat) : Int) ((g % 4 : Nat) : Int) 3 = ps σ ((g / 4 : Nat) : Int) ((g % 4 : Nat) : Int) from rfl)) ?_
                          refine g_iload (pc := 592) dL_same_592 rfl ?_
                          refine g_c_ne (tgt := 637) (pc := 594) dL_same_594 (by omega) (by decide) (fun c594 => absurd c594 (by omega)) (fun c594 => ?_)
                          refine g_aload_n (i := 0) (pc := 597) dL_same_597 rfl rfl ?_
                          refine g_iload (pc := 598) dL_same_598 rfl ?_
                          refine g_iconst (pc := 600) dL_same_600 ?_
                          refine g_idiv (pc := 601) dL_same_601 (by omega) (by omega) ?_
                          refine G.eqS (congrArg (fun z => vI z) ((show Int.tdiv (g : Int) ((4 : Nat) : Int) = ((g / 4 : Nat) : Int) from n_dv g 4))) ?_
                          refine g_iload (pc := 602) dL_same_602 rfl ?_
                          refine g_iconst (pc := 604) dL_same_604 ?_
                          refine g_irem (pc := 605) dL_same_605 (by omega) (by omega) ?_
                          refine G.eqS (congrArg (fun z => vI z) ((show Int.tmod (g : Int) ((4 : Nat) : Int) = ((g % 4 : Nat) : Int) from n_md g 4))) ?_
                          refine g_iconst (pc := 606) dL_same_606 ?_
                          refine g_vq3 (pc := 607) okV_X3_group rfl l_L_84 dL_same_607 c_0 hc_3 (by decide) (by decide) (Nat.le_of_ble_eq_true rfl) ⟨by omega, by omega⟩ (hs ▸ t_X3_group hK (x := 4) (by omega) (by omega) (by omega)) (by unfold xc_gr; rw [if_pos hgr, if_pos (by omega)]) ?_
                          refine G.eqS (congrArg (fun z => vI z) (show grv σ ((g / 4 : Nat) : Int) ((g % 4 : Nat) : Int) 4 = ro σ ((g / 4 : Nat) : Int) ((g % 4 : Nat) : Int) from rfl)) ?_
                          refine g_iload (pc := 610) dL_same_610 rfl ?_
                          refine g_c_ne (tgt := 637) (pc := 612) dL_same_612 (by omega) (by decide) (fun c612 => absurd c612 (by omega)) (fun c612 => ?_)
                          refine g_aload_n (i := 0) (pc := 615) dL_same_615 rfl rfl ?_
                          refine g_iload (pc := 616) dL_same_616 rfl ?_
                          refine g_iconst (pc := 618) dL_same_618 ?_
                          refine g_idiv (pc := 619) dL_same_619 (by omega) (by omega) ?_
                          refine G.eqS (congrArg (fun z => vI z) ((show Int.tdiv (g : Int) ((4 : Nat) : Int) = ((g / 4 : Nat) : Int) from n_dv g 4))) ?_
                          refine g_iload (pc := 620) dL_same_620 rfl ?_
                          refine g_iconst (pc := 622) dL_same_622 ?_
                          refine g_irem (pc := 623) dL_same_623 (by omega) (by omega) ?_
                          refine G.eqS (congrArg (fun z => vI z) ((show Int.tmod (g : Int) ((4 : Nat) : Int) = ((g % 4 : Nat) : Int) from n_md g 4))) ?_
                          refine g_vq2 (pc := 624) okV_X3_whyNot rfl l_L_87 dL_same_624 c_0 hc_3 (by decide) (by decide) (Nat.le_of_ble_eq_true rfl) ⟨by omega, by omega⟩ (hs ▸ t_X3_whyNot hK (by omega) (by omega)) (by unfold xc_wn; rw [if_pos hgr]) ?_
                          refine g_iload (pc := 627) dL_same_627 rfl ?_
                          refine g_aload_n (i := 1) (pc := 629) dL_same_629 rfl rfl ?_
                          refine g_aload_n (i := 2) (pc := 630) dL_same_630 rfl rfl ?_
                          refine g_sIRR (pc := 631) okS_L_why rfl l_L_69 dL_same_631 (by decide) (by decide) (Nat.le_of_ble_eq_true rfl) (t_L_why (σ := σ) (p := ((g / 4 : Nat) : Int)) (g := ((g % 4 : Nat) : Int)) c_79 c_80 hi hG hgp.1 hgp.2) rfl ?_
                          simp only [Option.toList, List.cons_append, List.nil_append]
                          have bb := wn_rng σ ((g / 4 : Nat) : Int) ((g % 4 : Nat) : Int)
                          refine g_c_eq (tgt := 639) (pc := 634) dL_same_634 (by omega) (by decide) (fun c634 => ?_) (fun c634 => absurd c634 (by omega))
                          refine g_iinc (pc := 639) dL_same_639 rfl (by decide) rfl ?_
                          simp only [List.set_cons_succ, List.set_cons_zero]
                          refine g_goto (tgt := 155) (pc := 642) dL_same_642 (by decide) ?_
                          refine G.drop 15 (G.drop 14 (G.drop 13 (G.drop 12 (G.drop 11 (G.drop 10 (G.drop 9 ?_))))))
                          simp only [List.set_cons_succ, List.set_cons_zero]
                          refine G.eqL2 (F := fun x y => [some (vR 0), some (vR 79), some (vR 80), some (vR 81), some (vI x), some (vI y), some (vI (nsf σ)), some (vI (nfr σ)), some (vI ((g : Int) + 1)), none, none, none, none, none, none, none]) ((congrArg (fun z => ct (fun k => decide (s_bg σ k = 1)) g + z) (b2_bg hg).symm).trans (ct_b2 (fun k => decide (s_bg σ k = 1)) g).symm) (ct_b2 (fun k => wid σ ((k / 4 : Nat) : Int) ((k % 4 : Nat) : Int)) g).symm ?_
                          exact G.bud ih (by omega) (by omega)
                        · skip
                          refine g_z_eq (tgt := 575) (pc := 568) dL_same_568 (by omega) (by decide) (fun c568 => ?_) (fun c568 => ?_)
                          · skip
                            refine g_iconst (pc := 575) dL_same_575 ?_
                            refine G.eqS (congrArg (fun z => vI z) (show 0 = b2 (wid σ ((g / 4 : Nat) : Int) ((g % 4 : Nat) : Int)) by omega)) ?_
                            exact J
                          · skip
                            refine g_iconst (pc := 571) dL_same_571 ?_
                            refine g_goto (tgt := 576) (pc := 572) dL_same_572 (by decide) ?_
                            refine G.eqS (congrArg (fun z => vI z) (show 1 = b2 (wid σ ((g / 4 : Nat) : Int) ((g % 4 : Nat) : Int)) by omega)) ?_
                            exact J
                      · skip
                        refine g_z_eq (tgt := 549) (pc := 542) dL_same_542 (by omega) (by decide) (fun c542 => ?_) (fun c542 => ?_)
                        · skip
                          refine g_iconst (pc := 549) dL_same_549 ?_
                          refine G.eqS (congrArg (fun z => vI z) (show 0 = b2 (big σ ((g / 4 : Nat) : Int) ((g % 4 : Nat) : Int)) by omega)) ?_
                          exact J
                        · skip
                          refine g_iconst (pc := 545) dL_same_545 ?_
                          refine g_goto (tgt := 550) (pc := 546) dL_same_546 (by decide) ?_
                          refine G.eqS (congrArg (fun z => vI z) (show 1 = b2 (big σ ((g / 4 : Nat) : Int) ((g % 4 : Nat) : Int)) by omega)) ?_
                          exact J
                    · skip
                      refine g_z_eq (tgt := 505) (pc := 498) dL_same_498 (by omega) (by decide) (fun c498 => ?_) (fun c498 => ?_)
                      · skip
                        refine g_iconst (pc := 505) dL_same_505 ?_
                        refine G.eqS (congrArg (fun z => vI z) (show 0 = b2 (wid σ ((g / 4 : Nat) : Int) ((g % 4 : Nat) : Int)) by omega)) ?_
                        exact J
                      · skip
                        refine g_iconst (pc := 501) dL_same_501 ?_
                        refine g_goto (tgt := 506) (pc := 502) dL_same_502 (by decide) ?_
                        refine G.eqS (congrArg (fun z => vI z) (show 1 = b2 (wid σ ((g / 4 : Nat) : Int) ((g % 4 : Nat) : Int)) by omega)) ?_
                        exact J
                  · skip
                    refine g_z_eq (tgt := 490) (pc := 483) dL_same_483 (by omega) (by decide) (fun c483 => ?_) (fun c483 => ?_)
                    · skip
                      refine g_iconst (pc := 490) dL_same_490 ?_
                      refine G.eqS (congrArg (fun z => vI z) (show 0 = b2 (big σ ((g / 4 : Nat) : Int) ((g % 4 : Nat) : Int)) by omega)) ?_
                      exact J
                    · skip
                      refine g_iconst (pc := 486) dL_same_486 ?_
                      refine g_goto (tgt := 491) (pc := 487) dL_same_487 (by decide) ?_
                      refine G.eqS (congrArg (fun z => vI z) (show 1 = b2 (big σ ((g / 4 : Nat) : Int) ((g % 4 : Nat) : Int)) by omega)) ?_
                      exact J
                · skip
                  refine g_z_eq (tgt := 476) (pc := 458) dL_same_458 (by omega) (by decide) (fun c458 => ?_) (fun c458 => ?_)
                  · skip
                    refine g_iconst (pc := 476) dL_same_476 ?_
                    refine G.eqS (congrArg (fun z => vI z) ?_) J
                    first
                    | exact (b2_f (fun z => b2_0.mp (by omega) (w7.mp z).1)).symm
                    | exact (b2_t (w7.mpr ⟨b2_1.mp (by omega), by omega, by omega⟩)).symm
                    | exact (b2_f (fun z => by have z9 := w7.mp z; omega)).symm
                  · skip
                    refine g_iload (pc := 461) dL_same_461 rfl ?_
                    refine g_z_le (tgt := 476) (pc := 463) dL_same_463 (by omega) (by decide) (fun c463 => ?_) (fun c463 => ?_)
                    · skip
                      refine g_iconst (pc := 476) dL_same_476 ?_
                      refine G.eqS (congrArg (fun z => vI z) ?_) J
                      first
                      | exact (b2_f (fun z => b2_0.mp (by omega) (w7.mp z).1)).symm
                      | exact (b2_t (w7.mpr ⟨b2_1.mp (by omega), by omega, by omega⟩)).symm
                      | exact (b2_f (fun z => by have z9 := w7.mp z; omega)).symm
                    · skip
                      refine g_iload (pc := 466) dL_same_466 rfl ?_
                      refine g_iconst (pc := 468) dL_same_468 ?_
                      refine g_c_ne (tgt := 476) (pc := 469) dL_same_469 (by omega) (by decide) (fun c469 => ?_) (fun c469 => ?_)
                      · skip
                        refine g_iconst (pc := 476) dL_same_476 ?_
                        refine G.eqS (congrArg (fun z => vI z) ?_) J
                        first
                        | exact (b2_f (fun z => b2_0.mp (by omega) (w7.mp z).1)).symm
                        | exact (b2_t (w7.mpr ⟨b2_1.mp (by omega), by omega, by omega⟩)).symm
                        | exact (b2_f (fun z => by have z9 := w7.mp z; omega)).symm
                      · skip
                        refine g_iconst (pc := 472) dL_same_472 ?_
                        refine g_goto (tgt := 477) (pc := 473) dL_same_473 (by decide) ?_
                        refine G.eqS (congrArg (fun z => vI z) ?_) J
                        first
                        | exact (b2_f (fun z => b2_0.mp (by omega) (w7.mp z).1)).symm
                        | exact (b2_t (w7.mpr ⟨b2_1.mp (by omega), by omega, by omega⟩)).symm
                        | exact (b2_f (fun z => by have z9 := w7.mp z; omega)).symm
              · intro h hh ih3
                show G _ _ _ _ _ _ _ _ _ _ _
                have hhp : (0 ≤ ((h / 4 : Nat) : Int) ∧ ((h / 4 : Nat) : Int) < 4) ∧ 0 ≤ ((h % 4 : Nat) : Int) ∧ ((h % 4 : Nat) : Int) < 4 := by omega
                have hH : (h : Int) = 4 * ((h / 4 : Nat) : Int) + ((h % 4 : Nat) : Int) := by omega
                refine g_iload (pc := 406) dL_same_406 rfl ?_
                refine g_bipush (pc := 408) dL_same_408 (by decide) ?_
                refine g_c_ge (tgt := 456) (pc := 410) dL_same_410 (by omega) (by decide) (fun c410 => absurd c410 (by omega)) (fun c410 => ?_)
                refine g_iload (pc := 413) dL_same_413 rfl ?_
                refine g_aload_n (i := 1) (pc := 415) dL_same_415 rfl rfl ?_
                refine g_iconst (pc := 416) dL_same_416 ?_
                refine g_iald (pc := 417) dL_same_417 (c_79) (by omega) ?_
                refine G.eqS (v' := vI (bsum (s_bg σ) 16)) rfl ?_
                refine g_iload (pc := 418) dL_same_418 rfl ?_
                refine g_ishr (pc := 420) dL_same_420 ?_
                refine g_iconst (pc := 421) dL_same_421 ?_
                refine g_iand (pc := 422) dL_same_422 ?_
                refine G.eqS (congrArg (fun z => vI z) (bit_bg (σ := σ) hi (p := ((h / 4 : Nat) : Int)) (g := ((h % 4 : Nat) : Int)) hH hhp.1 hhp.2)) ?_
                have b7 := b2_rng (big σ ((h / 4 : Nat) : Int) ((h % 4 : Nat) : Int))
                refine g_iconst (pc := 423) dL_same_423 ?_
                refine G.join2 (T := 447) (v := b2 (big σ ((h / 4 : Nat) : Int) ((h % 4 : Nat) : Int) && decide ((fo σ ((h / 4 : Nat) : Int) (4 * ((h % 4 : Nat) : Int))).tdiv 4 = ro σ ((g / 4 : Nat) : Int) ((g % 4 : Nat) : Int)))) ?_ (fun J => ?_)
                · skip
                  refine g_iadd (pc := 447) dL_same_447 ?_
                  refine g_istore (pc := 448) dL_same_448 (by decide) rfl ?_
                  simp only [List.set_cons_succ, List.set_cons_zero]
                  refine g_iinc (pc := 450) dL_same_450 rfl (by decide) rfl ?_
                  simp only [List.set_cons_succ, List.set_cons_zero]
                  refine g_goto (tgt := 406) (pc := 453) dL_same_453 (by decide) ?_
                  refine G.eqL (congrArg (fun z => [some (vR 0), some (vR 79), some (vR 80), some (vR 81), some (vI (ct (fun k => decide (s_bg σ k = 1)) (g))), some (vI (ct (fun k => wid σ ((k / 4 : Nat) : Int) ((k % 4 : Nat) : Int)) (g))), some (vI (nsf σ)), some (vI (nfr σ)), some (vI ((g : Int))), some (vI (b2 (big σ ((g / 4 : Nat) : Int) ((g % 4 : Nat) : Int)))), some (vI (ro σ ((g / 4 : Nat) : Int) ((g % 4 : Nat) : Int))), some (vI (pf σ ((g / 4 : Nat) : Int) ((g % 4 : Nat) : Int))), some (vI (ps σ ((g / 4 : Nat) : Int) ((g % 4 : Nat) : Int))), some (vI z), some (vI ((h : Int) + 1)), none]) (alk_s (σ := σ) (r := ro σ ((g / 4 : Nat) : Int) ((g % 4 : Nat) : Int)) (j := h)).symm) ?_
                  exact G.bud ih3 (by omega) (by omega)
                · skip
                  refine g_c_ne (tgt := 446) (pc := 424) dL_same_424 (by omega) (by decide) (fun c424 => ?_) (fun c424 => ?_)
                  · skip
                    refine g_iconst (pc := 446) dL_same_446 ?_
                    refine G.eqS (congrArg (fun z => vI z) ?_) J
                    first
                    | exact (b2_f (fun z => by rw [Bool.and_eq_true] at z; exact b2_0.mp (by omega) z.1)).symm
                    | exact (b2_t (by rw [Bool.and_eq_true, decide_eq_true_eq]; exact ⟨b2_1.mp (by omega), by omega⟩)).symm
                    | exact (b2_f (fun z => by rw [Bool.and_eq_true, decide_eq_true_eq] at z; omega)).symm
                  · skip
                    refine g_iconst (pc := 427) dL_same_427 ?_
                    refine g_iload (pc := 428) dL_same_428 rfl ?_
                    refine g_imul (pc := 430) dL_same_430 ?_
                    refine g_aload_n (i := 2) (pc := 431) dL_same_431 rfl rfl ?_
                    refine g_sIR (pc := 432) okS_L_frame rfl l_L_46 dL_same_432 (by decide) (by decide) (Nat.le_of_ble_eq_true rfl) (t_L_frame (σ := σ) c_80 hi (by omega)) rfl ?_
                    simp only [Option.toList, List.cons_append, List.nil_append]
                    refine G.eqS (congrArg (fun z => vI z) (fo_k (σ := σ) (p := ((h / 4 : Nat) : Int)) (v := 4 * ((h % 4 : Nat) : Int)) (by omega) hhp.1 (by omega))) ?_
                    have bq := fo_rng hi ((h / 4 : Nat) : Int) (4 * ((h % 4 : Nat) : Int))
                    refine g_iconst (pc := 435) dL_same_435 ?_
                    refine g_idiv (pc := 436) dL_same_436 (by omega) (by omega) ?_
                    have dq9 : -1 ≤ Int.tdiv (fo σ ((h / 4 : Nat) : Int) (4 * ((h % 4 : Nat) : Int))) 4 ∧ Int.tdiv (fo σ ((h / 4 : Nat) : Int) (4 * ((h % 4 : Nat) : Int))) 4 < 32 := td_rng bq
                    refine g_iload (pc := 437) dL_same_437 rfl ?_
                    refine g_c_ne (tgt := 446) (pc := 439) dL_same_439 (by omega) (by decide) (fun c439 => ?_) (fun c439 => ?_)
                    · skip
                      refine g_iconst (pc := 446) dL_same_446 ?_
                      refine G.eqS (congrArg (fun z => vI z) ?_) J
                      first
                      | exact (b2_f (fun z => by rw [Bool.and_eq_true] at z; exact b2_0.mp (by omega) z.1)).symm
                      | exact (b2_t (by rw [Bool.and_eq_true, decide_eq_true_eq]; exact ⟨b2_1.mp (by omega), by omega⟩)).symm
                      | exact (b2_f (fun z => by rw [Bool.and_eq_true, decide_eq_true_eq] at z; omega)).symm
                    · skip
                      refine g_iconst (pc := 442) dL_same_442 ?_
                      refine g_goto (tgt := 447) (pc := 443) dL_same_443 (by decide) ?_
                      refine G.eqS (congrArg (fun z => vI z) ?_) J
                      first
                      | exact (b2_f (fun z => by rw [Bool.and_eq_true] at z; exact b2_0.mp (by omega) z.1)).symm
                      | exact (b2_t (by rw [Bool.and_eq_true, decide_eq_true_eq]; exact ⟨b2_1.mp (by omega), by omega⟩)).symm
                      | exact (b2_f (fun z => by rw [Bool.and_eq_true, decide_eq_true_eq] at z; omega)).symm
            · intro j hj ih2
              show G _ _ _ _ _ _ _ _ _ _ _
              have hpg : hasPg σ ((g / 4 : Nat) : Int) (4 * ((g % 4 : Nat) : Int) + (j : Int)) = true := by rw [hasPg, Bool.and_eq_true, decide_eq_true_eq]; exact ⟨hP, by omega⟩
              have hvd : Int.tdiv (4 * ((g % 4 : Nat) : Int) + (j : Int)) 4 = ((g % 4 : Nat) : Int) := by rw [Int.tdiv_eq_ediv_of_nonneg (by omega)]; omega
              have ek : 4 * (g : Int) + (j : Int) = ((4 * g + j : Nat) : Int) := by omega
              refine g_iload (pc := 233) dL_same_233 rfl ?_
              refine g_iconst (pc := 235) dL_same_235 ?_
              refine g_iload (pc := 236) dL_same_236 rfl ?_
              refine g_imul (pc := 238) dL_same_238 ?_
              refine g_iconst (pc := 239) dL_same_239 ?_
              refine g_iadd (pc := 240) dL_same_240 ?_
              refine g_c_ge (tgt := 403) (pc := 241) dL_same_241 (by omega) (by decide) (fun c241 => absurd c241 (by omega)) (fun c241 => ?_)
              refine g_iload (pc := 244) dL_same_244 rfl ?_
              refine g_aload_n (i := 2) (pc := 246) dL_same_246 rfl rfl ?_
              refine g_sIR (pc := 247) okS_L_frame rfl l_L_46 dL_same_247 (by decide) (by decide) (Nat.le_of_ble_eq_true rfl) (t_L_frame (σ := σ) c_80 hi (by omega)) rfl ?_
              simp only [Option.toList, List.cons_append, List.nil_append]
              refine G.eqS (congrArg (fun z => vI z) (fo_k (σ := σ) (p := ((g / 4 : Nat) : Int)) (v := (4 * ((g % 4 : Nat) : Int) + (j : Int))) (by omega) hgp.1 (by omega))) ?_
              have bf := fo_rng hi ((g / 4 : Nat) : Int) (4 * ((g % 4 : Nat) : Int) + (j : Int))
              refine g_istore (pc := 250) dL_same_250 (by decide) rfl ?_
              simp only [List.set_cons_succ, List.set_cons_zero]
              refine g_iload (pc := 252) dL_same_252 rfl ?_
              refine g_iload (pc := 254) dL_same_254 rfl ?_
              refine G.join1 (T := 264) (v := b2 (decide (fo σ ((g / 4 : Nat) : Int) (4 * ((g % 4 : Nat) : Int) + (j : Int)) ≠ -1))) ?_ (fun J => ?_)
              · skip
                refine g_iadd (pc := 264) dL_same_264 ?_
                refine g_istore (pc := 265) dL_same_265 (by decide) rfl ?_
                simp only [List.set_cons_succ, List.set_cons_zero]
                refine g_iload (pc := 267) dL_same_267 rfl ?_
                refine g_iload (pc := 269) dL_same_269 rfl ?_
                refine G.join1 (T := 289) (v := b2 (sh σ (fo σ ((g / 4 : Nat) : Int) (4 * ((g % 4 : Nat) : Int) + (j : Int))))) ?_ (fun J => ?_)
                · skip
                  refine g_iadd (pc := 289) dL_same_289 ?_
                  refine g_istore (pc := 290) dL_same_290 (by decide) rfl ?_
                  simp only [List.set_cons_succ, List.set_cons_zero]
                  refine g_aload_n (i := 0) (pc := 292) dL_same_292 rfl rfl ?_
                  refine g_iload (pc := 293) dL_same_293 rfl ?_
                  refine g_bipush (pc := 295) dL_same_295 (by decide) ?_
                  refine g_idiv (pc := 297) dL_same_297 (by omega) (by omega) ?_
                  refine G.eqS (congrArg (fun z => vI z) ((show Int.tdiv (4 * (g : Int) + (j : Int)) ((16 : Nat) : Int) = ((g / 4 : Nat) : Int) by rw [ek, n_dv]; omega))) ?_
                  refine g_iload (pc := 298) dL_same_298 rfl ?_
                  refine g_bipush (pc := 300) dL_same_300 (by decide) ?_
                  refine g_irem (pc := 302) dL_same_302 (by omega) (by omega) ?_
                  refine G.eqS (congrArg (fun z => vI z) ((show Int.tmod (4 * (g : Int) + (j : Int)) ((16 : Nat) : Int) = (4 * ((g % 4 : Nat) : Int) + (j : Int)) by rw [ek, n_md]; omega))) ?_
                  refine g_iconst (pc := 303) dL_same_303 ?_
                  refine g_vq3 (pc := 304) okV_X3_page rfl l_L_78 dL_same_304 c_0 hc_3 (by decide) (by decide) (Nat.le_of_ble_eq_true rfl) ⟨by omega, by omega⟩ (hs ▸ t_X3_page hK (x := 0) (by omega) (by omega) (by omega)) (by unfold xc_pg; rw [if_pos hpg, if_pos (by omega)]) ?_
                  refine G.eqS (congrArg (fun z => vI z) (show pgv σ ((g / 4 : Nat) : Int) (4 * ((g % 4 : Nat) : Int) + (j : Int)) 0 = fo σ ((g / 4 : Nat) : Int) (4 * ((g % 4 : Nat) : Int) + (j : Int)) from rfl)) ?_
                  refine g_iload (pc := 307) dL_same_307 rfl ?_
                  refine g_c_ne (tgt := 395) (pc := 309) dL_same_309 (by omega) (by decide) (fun c309 => absurd c309 (by omega)) (fun c309 => ?_)
                  refine g_aload_n (i := 0) (pc := 312) dL_same_312 rfl rfl ?_
                  refine g_iload (pc := 313) dL_same_313 rfl ?_
                  refine g_bipush (pc := 315) dL_same_315 (by decide) ?_
                  refine g_idiv (pc := 317) dL_same_317 (by omega) (by omega) ?_
                  refine G.eqS (congrArg (fun z => vI z) ((show Int.tdiv (4 * (g : Int) + (j : Int)) ((16 : Nat) : Int) = ((g / 4 : Nat) : Int) by rw [ek, n_dv]; omega))) ?_
                  refine g_iload (pc := 318) dL_same_318 rfl ?_
                  refine g_bipush (pc := 320) dL_same_320 (by decide) ?_
                  refine g_irem (pc := 322) dL_same_322 (by omega) (by omega) ?_
                  refine G.eqS (congrArg (fun z => vI z) ((show Int.tmod (4 * (g : Int) + (j : Int)) ((16 : Nat) : Int) = (4 * ((g % 4 : Nat) : Int) + (j : Int)) by rw [ek, n_md]; omega))) ?_
                  refine g_iconst (pc := 323) dL_same_323 ?_
                  refine g_vq3 (pc := 324) okV_X3_page rfl l_L_78 dL_same_324 c_0 hc_3 (by decide) (by decide) (Nat.le_of_ble_eq_true rfl) ⟨by omega, by omega⟩ (hs ▸ t_X3_page hK (x := 1) (by omega) (by omega) (by omega)) (by unfold xc_pg; rw [if_pos hpg, if_pos (by omega)]) ?_
                  refine G.eqS (congrArg (fun z => vI z) (show pgv σ ((g / 4 : Nat) : Int) (4 * ((g % 4 : Nat) : Int) + (j : Int)) 1 = vo σ ((g / 4 : Nat) : Int) (4 * ((g % 4 : Nat) : Int) + (j : Int)) from rfl)) ?_
                  have vr9 := vo_rng hi ((g / 4 : Nat) : Int) (4 * ((g % 4 : Nat) : Int) + (j : Int))
                  refine g_iload (pc := 327) dL_same_327 rfl ?_
                  refine G.join1 (T := 340) (v := vo σ ((g / 4 : Nat) : Int) (4 * ((g % 4 : Nat) : Int) + (j : Int))) ?_ (fun J => ?_)
                  · skip
                    refine g_c_ne (tgt := 395) (pc := 340) dL_same_340 (by omega) (by decide) (fun c340 => absurd c340 (by omega)) (fun c340 => ?_)
                    refine g_aload_n (i := 0) (pc := 343) dL_same_343 rfl rfl ?_
                    refine g_iload (pc := 344) dL_same_344 rfl ?_
                    refine g_bipush (pc := 346) dL_same_346 (by decide) ?_
                    refine g_idiv (pc := 348) dL_same_348 (by omega) (by omega) ?_
                    refine G.eqS (congrArg (fun z => vI z) ((show Int.tdiv (4 * (g : Int) + (j : Int)) ((16 : Nat) : Int) = ((g / 4 : Nat) : Int) by rw [ek, n_dv]; omega))) ?_
                    refine g_iload (pc := 349) dL_same_349 rfl ?_
                    refine g_bipush (pc := 351) dL_same_351 (by decide) ?_
                    refine g_irem (pc := 353) dL_same_353 (by omega) (by omega) ?_
                    refine G.eqS (congrArg (fun z => vI z) ((show Int.tmod (4 * (g : Int) + (j : Int)) ((16 : Nat) : Int) = (4 * ((g % 4 : Nat) : Int) + (j : Int)) by rw [ek, n_md]; omega))) ?_
                    refine g_iconst (pc := 354) dL_same_354 ?_
                    refine g_vq3 (pc := 355) okV_X3_page rfl l_L_78 dL_same_355 c_0 hc_3 (by decide) (by decide) (Nat.le_of_ble_eq_true rfl) ⟨by omega, by omega⟩ (hs ▸ t_X3_page hK (x := 3) (by omega) (by omega) (by omega)) (by unfold xc_pg; rw [if_pos hpg, if_pos (by omega)]) ?_
                    refine G.eqS (congrArg (fun z => vI z) ((show pgv σ ((g / 4 : Nat) : Int) (4 * ((g % 4 : Nat) : Int) + (j : Int)) 3 = b2 (big σ ((g / 4 : Nat) : Int) (Int.tdiv (4 * ((g % 4 : Nat) : Int) + (j : Int)) 4)) from rfl).trans (by rw [hvd]))) ?_
                    refine g_iload (pc := 358) dL_same_358 rfl ?_
                    refine G.join1 (T := 368) (v := b2 (big σ ((g / 4 : Nat) : Int) ((g % 4 : Nat) : Int))) ?_ (fun J => ?_)
                    · skip
                      refine g_c_ne (tgt := 395) (pc := 368) dL_same_368 (by omega) (by decide) (fun c368 => absurd c368 (by omega)) (fun c368 => ?_)
                      refine g_aload_n (i := 0) (pc := 371) dL_same_371 rfl rfl ?_
                      refine g_iload (pc := 372) dL_same_372 rfl ?_
                      refine g_bipush (pc := 374) dL_same_374 (by decide) ?_
                      refine g_idiv (pc := 376) dL_same_376 (by omega) (by omega) ?_
                      refine G.eqS (congrArg (fun z => vI z) ((show Int.tdiv (4 * (g : Int) + (j : Int)) ((16 : Nat) : Int) = ((g / 4 : Nat) : Int) by rw [ek, n_dv]; omega))) ?_
                      refine g_iload (pc := 377) dL_same_377 rfl ?_
                      refine g_bipush (pc := 379) dL_same_379 (by decide) ?_
                      refine g_irem (pc := 381) dL_same_381 (by omega) (by omega) ?_
                      refine G.eqS (congrArg (fun z => vI z) ((show Int.tmod (4 * (g : Int) + (j : Int)) ((16 : Nat) : Int) = (4 * ((g % 4 : Nat) : Int) + (j : Int)) by rw [ek, n_md]; omega))) ?_
                      refine g_vq2 (pc := 382) okV_X3_wouldDo rfl l_L_81 dL_same_382 c_0 hc_3 (by decide) (by decide) (Nat.le_of_ble_eq_true rfl) ⟨by omega, by omega⟩ (hs ▸ t_X3_wouldDo hK (by omega) (by omega)) (by unfold xc_wd; rw [if_pos hpg]) ?_
                      refine g_iload (pc := 385) dL_same_385 rfl ?_
                      refine g_aload_n (i := 1) (pc := 387) dL_same_387 rfl rfl ?_
                      refine g_aload_n (i := 2) (pc := 388) dL_same_388 rfl rfl ?_
                      refine g_sIRR (pc := 389) okS_L_would rfl l_L_60 dL_same_389 (by decide) (by decide) (Nat.le_of_ble_eq_true rfl) (t_L_would (σ := σ) (p := ((g / 4 : Nat) : Int)) (v := (4 * ((g % 4 : Nat) : Int) + (j : Int))) c_79 c_80 hi (by omega) hgp.1 (by omega) hpg) rfl ?_
                      simp only [Option.toList, List.cons_append, List.nil_append]
                      have or9 := oc_rng σ ((g / 4 : Nat) : Int) (4 * ((g % 4 : Nat) : Int) + (j : Int))
                      refine g_c_eq (tgt := 397) (pc := 392) dL_same_392 (by omega) (by decide) (fun c392 => ?_) (fun c392 => absurd c392 (by omega))
                      refine g_iinc (pc := 397) dL_same_397 rfl (by decide) rfl ?_
                      simp only [List.set_cons_succ, List.set_cons_zero]
                      refine g_goto (tgt := 233) (pc := 400) dL_same_400 (by decide) ?_
                      refine G.drop 15 ?_
                      simp only [List.set_cons_succ, List.set_cons_zero]
                      refine G.eqL3 (F := fun x y z => [some (vR 0), some (vR 79), some (vR 80), some (vR 81), some (vI (ct (fun k => decide (s_bg σ k = 1)) (g))), some (vI (ct (fun k => wid σ ((k / 4 : Nat) : Int) ((k % 4 : Nat) : Int)) (g))), some (vI (nsf σ)), some (vI (nfr σ)), some (vI ((g : Int))), some (vI (b2 (big σ ((g / 4 : Nat) : Int) ((g % 4 : Nat) : Int)))), some (vI (ro σ ((g / 4 : Nat) : Int) ((g % 4 : Nat) : Int))), some (vI x), some (vI y), some (vI (0)), some (vI z), none]) (ct_b2 (fun i : Nat => decide (fo σ ((g / 4 : Nat) : Int) (4 * ((g % 4 : Nat) : Int) + i) ≠ -1)) j).symm (ct_b2 (fun i : Nat => sh σ (fo σ ((g / 4 : Nat) : Int) (4 * ((g % 4 : Nat) : Int) + i))) j).symm (show 4 * (g : Int) + (j : Int) + 1 = 4 * (g : Int) + ((j + 1 : Nat) : Int) by omega) ?_
                      exact G.bud ih2 (by omega) (by omega)
                    · skip
                      refine g_z_eq (tgt := 367) (pc := 360) dL_same_360 (by omega) (by decide) (fun c360 => ?_) (fun c360 => ?_)
                      · skip
                        refine g_iconst (pc := 367) dL_same_367 ?_
                        refine G.eqS (congrArg (fun z => vI z) (show 0 = b2 (big σ ((g / 4 : Nat) : Int) ((g % 4 : Nat) : Int)) by omega)) ?_
                        exact J
                      · skip
                        refine g_iconst (pc := 363) dL_same_363 ?_
                        refine g_goto (tgt := 368) (pc := 364) dL_same_364 (by decide) ?_
                        refine G.eqS (congrArg (fun z => vI z) (show 1 = b2 (big σ ((g / 4 : Nat) : Int) ((g % 4 : Nat) : Int)) by omega)) ?_
                        exact J
                  · skip
                    refine g_z_ge (tgt := 336) (pc := 329) dL_same_329 (by omega) (by decide) (fun c329 => ?_) (fun c329 => ?_)
                    · skip
                      refine g_aload_n (i := 3) (pc := 336) dL_same_336 rfl rfl ?_
                      refine g_iload (pc := 337) dL_same_337 rfl ?_
                      refine g_iald (pc := 339) dL_same_339 (c_81) (by omega) ?_
                      refine G.eqS (v' := vI (s_va σ ((fo σ ((g / 4 : Nat) : Int) (4 * ((g % 4 : Nat) : Int) + (j : Int)))).toNat)) rfl ?_
                      refine G.eqS (congrArg (fun z => vI z) ?_) J
                      unfold vo
                      first
                      | (rw [if_pos (by omega)]; done)
                      | (rw [if_neg (by omega)]; done)
                    · skip
                      refine g_iconst (pc := 332) dL_same_332 ?_
                      refine g_goto (tgt := 340) (pc := 333) dL_same_333 (by decide) ?_
                      refine G.eqS (congrArg (fun z => vI z) ?_) J
                      unfold vo
                      first
                      | (rw [if_pos (by omega)]; done)
                      | (rw [if_neg (by omega)]; done)
                · skip
                  refine g_z_lt (tgt := 288) (pc := 271) dL_same_271 (by omega) (by decide) (fun c271 => ?_) (fun c271 => ?_)
                  · skip
                    refine g_iconst (pc := 288) dL_same_288 ?_
                    refine G.eqS (congrArg (fun z => vI z) ?_) J
                    first
                    | exact (b2_f (fun z => by have z9 := of_decide_eq_true z; omega)).symm
                    | exact (b2_t ((sh_one hgp.1 (by omega) (by omega)).mpr (fun z => b2_0.mp (by omega) (decide_eq_true z)))).symm
                    | exact (b2_f (fun z => (sh_one hgp.1 (by omega) (by omega)).mp z (of_decide_eq_true (b2_1.mp (by omega))))).symm
                  · skip
                    refine g_aload_n (i := 2) (pc := 274) dL_same_274 rfl rfl ?_
                    refine g_iload (pc := 275) dL_same_275 rfl ?_
                    refine g_lald (pc := 277) dL_same_277 (c_80) (by omega) ?_
                    refine g_sJ (pc := 278) okS_L_one rfl l_L_50 dL_same_278 (by decide) (by decide) (Nat.le_of_ble_eq_true rfl) (t_L_onex (fr := s_fr σ) (x := fo σ ((g / 4 : Nat) : Int) (4 * ((g % 4 : Nat) : Int) + (j : Int))) (by omega)) rfl ?_
                    simp only [Option.toList, List.cons_append, List.nil_append]
                    have bb := b2_rng (decide (uses (s_fr σ) (fo σ ((g / 4 : Nat) : Int) (4 * ((g % 4 : Nat) : Int) + (j : Int))) = 1))
                    refine g_z_ne (tgt := 288) (pc := 281) dL_same_281 (by omega) (by decide) (fun c281 => ?_) (fun c281 => ?_)
                    · skip
                      refine g_iconst (pc := 288) dL_same_288 ?_
                      refine G.eqS (congrArg (fun z => vI z) ?_) J
                      first
                      | exact (b2_f (fun z => by have z9 := of_decide_eq_true z; omega)).symm
                      | exact (b2_t ((sh_one hgp.1 (by omega) (by omega)).mpr (fun z => b2_0.mp (by omega) (decide_eq_true z)))).symm
                      | exact (b2_f (fun z => (sh_one hgp.1 (by omega) (by omega)).mp z (of_decide_eq_true (b2_1.mp (by omega))))).symm
                    · skip
                      refine g_iconst (pc := 284) dL_same_284 ?_
                      refine g_goto (tgt := 289) (pc := 285) dL_same_285 (by decide) ?_
                      refine G.eqS (congrArg (fun z => vI z) ?_) J
                      first
                      | exact (b2_f (fun z => by have z9 := of_decide_eq_true z; omega)).symm
                      | exact (b2_t ((sh_one hgp.1 (by omega) (by omega)).mpr (fun z => b2_0.mp (by omega) (decide_eq_true z)))).symm
                      | exact (b2_f (fun z => (sh_one hgp.1 (by omega) (by omega)).mp z (of_decide_eq_true (b2_1.mp (by omega))))).symm
              · skip
                refine g_z_lt (tgt := 263) (pc := 256) dL_same_256 (by omega) (by decide) (fun c256 => ?_) (fun c256 => ?_)
                · skip
                  refine g_iconst (pc := 263) dL_same_263 ?_
                  refine G.eqS (congrArg (fun z => vI z) ?_) J
                  first
                  | exact (b2_t (decide_eq_true (by omega))).symm
                  | exact (b2_f (fun z => by have z9 := of_decide_eq_true z; omega)).symm
                · skip
                  refine g_iconst (pc := 259) dL_same_259 ?_
                  refine g_goto (tgt := 264) (pc := 260) dL_same_260 (by decide) ?_
                  refine G.eqS (congrArg (fun z => vI z) ?_) J
                  first
                  | exact (b2_t (decide_eq_true (by omega))).symm
                  | exact (b2_f (fun z => by have z9 := of_decide_eq_true z; omega)).symm
          · skip
            refine g_z_eq (tgt := 215) (pc := 199) dL_same_199 (by omega) (by decide) (fun c199 => ?_) (fun c199 => ?_)
            · skip
              refine g_iconst (pc := 215) dL_same_215 ?_
              refine G.eqS (congrArg (fun z => vI z) ?_) J
              unfold ro
              first
              | (rw [if_pos (b2_1.mp (by omega))]; done)
              | (rw [if_neg (b2_0.mp (by omega))]; done)
            · skip
              refine g_iconst (pc := 202) dL_same_202 ?_
              refine g_iload (pc := 203) dL_same_203 rfl ?_
              refine g_imul (pc := 205) dL_same_205 ?_
              refine g_aload_n (i := 2) (pc := 206) dL_same_206 rfl rfl ?_
              refine g_sIR (pc := 207) okS_L_frame rfl l_L_46 dL_same_207 (by decide) (by decide) (Nat.le_of_ble_eq_true rfl) (t_L_frame (σ := σ) c_80 hi (by omega)) rfl ?_
              simp only [Option.toList, List.cons_append, List.nil_append]
              refine G.eqS (congrArg (fun z => vI z) (fo_k (σ := σ) (p := ((g / 4 : Nat) : Int)) (v := 4 * ((g % 4 : Nat) : Int)) (by omega) hgp.1 (by omega))) ?_
              have bf := fo_rng hi ((g / 4 : Nat) : Int) (4 * ((g % 4 : Nat) : Int))
              refine g_iconst (pc := 210) dL_same_210 ?_
              refine g_idiv (pc := 211) dL_same_211 (by omega) (by omega) ?_
              refine g_goto (tgt := 216) (pc := 212) dL_same_212 (by decide) ?_
              refine G.eqS (congrArg (fun z => vI z) ?_) J
              unfold ro
              first
              | (rw [if_pos (b2_1.mp (by omega))]; done)
              | (rw [if_neg (b2_0.mp (by omega))]; done)
        · skip
          refine g_c_ne (tgt := 194) (pc := 187) dL_same_187 (by omega) (by decide) (fun c187 => ?_) (fun c187 => ?_)
          · skip
            refine g_iconst (pc := 194) dL_same_194 ?_
            refine G.eqS (congrArg (fun z => vI z) (show 0 = b2 (big σ ((g / 4 : Nat) : Int) ((g % 4 : Nat) : Int)) by omega)) ?_
            exact J
          · skip
            refine g_iconst (pc := 190) dL_same_190 ?_
            refine g_goto (tgt := 195) (pc := 191) dL_same_191 (by decide) ?_
            refine G.eqS (congrArg (fun z => vI z) (show 1 = b2 (big σ ((g / 4 : Nat) : Int) ((g % 4 : Nat) : Int)) by omega)) ?_
            exact J
      · skip
        refine g_goto (tgt := 639) (pc := 175) dL_same_175 (by decide) ?_
        refine g_iinc (pc := 639) dL_same_639 rfl (by decide) rfl ?_
        simp only [List.set_cons_succ, List.set_cons_zero]
        refine g_goto (tgt := 155) (pc := 642) dL_same_642 (by decide) ?_
        have hno : ¬ hasP σ ((g / 4 : Nat) : Int) = true := b2_0.mp (by omega)
        have hex : s_ex σ (g / 4) = 0 := by
          rcases hi.2.2.2.2.2.2.1 (g / 4) with z | z
          · exact z
          · exact absurd (decide_eq_true ⟨by omega, by omega, by rw [Int.toNat_natCast]; exact z⟩) hno
        have hbg0 : s_bg σ g = 0 := by
          have := hi.2.2.2.2.2.2.2.2.2.2 (g / 4) (g % 4) (by omega) (by omega) hex
          rw [show 4 * (g / 4) + g % 4 = g by omega] at this
          exact this
        have hbb : b2 (big σ ((g / 4 : Nat) : Int) ((g % 4 : Nat) : Int)) = 0 := by rw [← b2_bg hg, hbg0]; rfl
        have hww : ¬ wid σ ((g / 4 : Nat) : Int) ((g % 4 : Nat) : Int) = true := fun z => b2_0.mp hbb ((wid_iff hi).mp z).1
        refine G.eqL2 (F := fun x y => [some (vR 0), some (vR 79), some (vR 80), some (vR 81), some (vI x), some (vI y), some (vI (nsf σ)), some (vI (nfr σ)), some (vI ((g : Int) + 1)), none, none, none, none, none, none, none]) (ct_no (p := fun k => decide (s_bg σ k = 1)) (fun z => by have z9 := of_decide_eq_true z; omega)).symm (ct_no (p := fun k => wid σ ((k / 4 : Nat) : Int) ((k % 4 : Nat) : Int)) hww).symm ?_
        exact G.bud ih (by omega) (by omega)
  · intro f hf ih
    show G _ _ _ _ _ _ _ _ _ _ _
    refine g_iload (pc := 15) dL_same_15 rfl ?_
    refine g_bipush (pc := 17) dL_same_17 (by decide) ?_
    refine g_c_ge (tgt := 152) (pc := 19) dL_same_19 (by omega) (by decide) (fun c19 => absurd c19 (by omega)) (fun c19 => ?_)
    refine g_iconst (pc := 22) dL_same_22 ?_
    refine g_istore (pc := 23) dL_same_23 (by decide) rfl ?_
    simp only [List.set_cons_succ, List.set_cons_zero]
    refine g_iconst (pc := 25) dL_same_25 ?_
    refine g_istore (pc := 26) dL_same_26 (by decide) rfl ?_
    simp only [List.set_cons_succ, List.set_cons_zero]
    refine G.bud (bc := 2 * (64 - 0) + 2 + 130 * (31 - f) + 800) (bs := 6 * (2 * (64 - 0) + 2 + 130 * (31 - f) + 800)) ?_ (by omega) (by omega)
    refine lp_up (P := fun k => G M_L_same none false false 28 [some (vR 0), some (vR 79), some (vR 80), some (vR 81), some (vI (0)), some (vI (0)), some (vI (ct (fun f => sh σ f) (f))), some (vI (c7 σ f)), some (vI ((f : Int))), some (vI (ct (fun j => decide (s_fr σ j = (f : Int))) (k))), some (vI ((k : Int))), none, none, none, none, none] [] (cW κ (lawm σ) o) (2 * (64 - k) + 2 + 130 * (31 - f) + 800) (6 * (2 * (64 - k) + 2 + 130 * (31 - f) + 800)) (dt (some (vI 1)) (cW κ (lawm σ) o))) 64 ?_ ?_ 0 (Nat.zero_le _)
    · refine G.eqL (L' := [some (vR 0), some (vR 79), some (vR 80), some (vR 81), some (vI (0)), some (vI (0)), some (vI (ct (fun f => sh σ f) (f))), some (vI (c7 σ f)), some (vI ((f : Int))), some (vI (uses (s_fr σ) (f : Int))), some (vI (((64 : Nat) : Int))), none, none, none, none, none]) rfl ?_
      refine g_iload (pc := 28) dL_same_28 rfl ?_
      refine g_bipush (pc := 30) dL_same_30 (by decide) ?_
      refine g_c_ge (tgt := 88) (pc := 32) dL_same_32 (by omega) (by decide) (fun c32 => ?_) (fun c32 => absurd c32 (by omega))
      refine g_iload (pc := 88) dL_same_88 rfl ?_
      refine g_iload (pc := 90) dL_same_90 rfl ?_
      have u9 := uses_rng (s_fr σ) (f : Int)
      have u8 := b2_shf (σ := σ) (f := (f : Int)) (by omega)
      have u7 := b2_rng (sh σ (f : Int))
      refine g_iconst (pc := 92) dL_same_92 ?_
      refine G.join2 (T := 101) (v := b2 (sh σ (f : Int))) ?_ (fun J => ?_)
      · skip
        refine g_iadd (pc := 101) dL_same_101 ?_
        refine g_istore (pc := 102) dL_same_102 (by decide) rfl ?_
        simp only [List.set_cons_succ, List.set_cons_zero]
        refine g_iload (pc := 104) dL_same_104 rfl ?_
        refine g_iload (pc := 106) dL_same_106 rfl ?_
        have m9 : Int.tmod (f : Int) 4 = ((f % 4 : Nat) : Int) := n_md f 4
        refine g_iconst (pc := 108) dL_same_108 ?_
        refine g_irem (pc := 109) dL_same_109 (by omega) (by omega) ?_
        refine G.join1 (T := 129) (v := b2 (decide (f % 4 = 0) && rf σ ((f / 4 : Nat) : Int))) ?_ (fun J => ?_)
        · skip
          refine g_iadd (pc := 129) dL_same_129 ?_
          refine g_istore (pc := 130) dL_same_130 (by decide) rfl ?_
          simp only [List.set_cons_succ, List.set_cons_zero]
          refine g_aload_n (i := 0) (pc := 132) dL_same_132 rfl rfl ?_
          refine g_iload (pc := 133) dL_same_133 rfl ?_
          refine g_iload (pc := 135) dL_same_135 rfl ?_
          refine g_vq2 (pc := 137) okV_X3_user rfl l_L_75 dL_same_137 c_0 hc_3 (by decide) (by decide) (Nat.le_of_ble_eq_true rfl) ⟨by omega, by omega⟩ ((hs ▸ t_X3_user hK (f := (f : Int)) (i := (uses (s_fr σ) (f : Int))) (by omega) (by omega))) (by unfold xc_us; rw [if_neg (by omega), if_neg (by omega)]) ?_
          refine G.eqS (congrArg (fun z => vI z) ((congrArg (uat σ (f : Int)) rfl).trans uat_end)) ?_
          refine g_iconst (pc := 140) dL_same_140 ?_
          refine g_c_eq (tgt := 146) (pc := 141) dL_same_141 (by omega) (by decide) (fun c141 => ?_) (fun c141 => absurd c141 (by omega))
          refine g_iinc (pc := 146) dL_same_146 rfl (by decide) rfl ?_
          simp only [List.set_cons_succ, List.set_cons_zero]
          refine g_goto (tgt := 15) (pc := 149) dL_same_149 (by decide) ?_
          refine G.drop 10 (G.drop 9 ?_)
          simp only [List.set_cons_succ, List.set_cons_zero]
          refine G.eqL2 (F := fun x y => [some (vR 0), some (vR 79), some (vR 80), some (vR 81), some (vI (0)), some (vI (0)), some (vI x), some (vI y), some (vI ((f : Int) + 1)), none, none, none, none, none, none, none]) (ct_b2 (fun f => sh σ f) f).symm (c7_s (σ := σ) (f := f)).symm ?_
          exact G.bud ih (by omega) (by omega)
        · skip
          refine g_z_ne (tgt := 128) (pc := 110) dL_same_110 (by omega) (by decide) (fun c110 => ?_) (fun c110 => ?_)
          · skip
            refine g_iconst (pc := 128) dL_same_128 ?_
            refine G.eqS (congrArg (fun z => vI z) ?_) J
            have m8 : Int.tmod (f : Int) 4 = ((f % 4 : Nat) : Int) := n_md f 4
            first
            | exact (b2_f (fun z => by rw [Bool.and_eq_true, decide_eq_true_eq] at z; omega)).symm
            | exact (b2_t (by rw [Bool.and_eq_true, decide_eq_true_eq]; exact ⟨by omega, b2_1.mp (by omega)⟩)).symm
            | exact (b2_f (fun z => by rw [Bool.and_eq_true, decide_eq_true_eq] at z; exact b2_0.mp (by omega) z.2)).symm
          · skip
            refine g_iload (pc := 113) dL_same_113 rfl ?_
            refine g_iconst (pc := 115) dL_same_115 ?_
            refine g_idiv (pc := 116) dL_same_116 (by omega) (by omega) ?_
            refine G.eqS (congrArg (fun z => vI z) (n_dv f 4)) ?_
            refine g_aload_n (i := 2) (pc := 117) dL_same_117 rfl rfl ?_
            refine g_sIR (pc := 118) okS_L_freeRun rfl l_L_36 dL_same_118 (by decide) (by decide) (Nat.le_of_ble_eq_true rfl) (t_L_freeRun (σ := σ) c_80 hi (by omega)) rfl ?_
            simp only [Option.toList, List.cons_append, List.nil_append]
            have bb := b2_rng (rf σ (((f / 4 : Nat) : Int)))
            refine g_z_eq (tgt := 128) (pc := 121) dL_same_121 (by omega) (by decide) (fun c121 => ?_) (fun c121 => ?_)
            · skip
              refine g_iconst (pc := 128) dL_same_128 ?_
              refine G.eqS (congrArg (fun z => vI z) ?_) J
              have m8 : Int.tmod (f : Int) 4 = ((f % 4 : Nat) : Int) := n_md f 4
              first
              | exact (b2_f (fun z => by rw [Bool.and_eq_true, decide_eq_true_eq] at z; omega)).symm
              | exact (b2_t (by rw [Bool.and_eq_true, decide_eq_true_eq]; exact ⟨by omega, b2_1.mp (by omega)⟩)).symm
              | exact (b2_f (fun z => by rw [Bool.and_eq_true, decide_eq_true_eq] at z; exact b2_0.mp (by omega) z.2)).symm
            · skip
              refine g_iconst (pc := 124) dL_same_124 ?_
              refine g_goto (tgt := 129) (pc := 125) dL_same_125 (by decide) ?_
              refine G.eqS (congrArg (fun z => vI z) ?_) J
              have m8 : Int.tmod (f : Int) 4 = ((f % 4 : Nat) : Int) := n_md f 4
              first
              | exact (b2_f (fun z => by rw [Bool.and_eq_true, decide_eq_true_eq] at z; omega)).symm
              | exact (b2_t (by rw [Bool.and_eq_true, decide_eq_true_eq]; exact ⟨by omega, b2_1.mp (by omega)⟩)).symm
              | exact (b2_f (fun z => by rw [Bool.and_eq_true, decide_eq_true_eq] at z; exact b2_0.mp (by omega) z.2)).symm
      · skip
        refine g_c_le (tgt := 100) (pc := 93) dL_same_93 (by omega) (by decide) (fun c93 => ?_) (fun c93 => ?_)
        · skip
          refine g_iconst (pc := 100) dL_same_100 ?_
          refine G.eqS (congrArg (fun z => vI z) (show 0 = b2 (sh σ (f : Int)) by omega)) ?_
          exact J
        · skip
          refine g_iconst (pc := 96) dL_same_96 ?_
          refine g_goto (tgt := 101) (pc := 97) dL_same_97 (by decide) ?_
          refine G.eqS (congrArg (fun z => vI z) (show 1 = b2 (sh σ (f : Int)) by omega)) ?_
          exact J
    · intro k hk ih2
      show G _ _ _ _ _ _ _ _ _ _ _
      refine g_iload (pc := 28) dL_same_28 rfl ?_
      refine g_bipush (pc := 30) dL_same_30 (by decide) ?_
      refine g_c_ge (tgt := 88) (pc := 32) dL_same_32 (by omega) (by decide) (fun c32 => absurd c32 (by omega)) (fun c32 => ?_)
      refine g_aload_n (i := 2) (pc := 35) dL_same_35 rfl rfl ?_
      refine g_iload (pc := 36) dL_same_36 rfl ?_
      refine g_lald (pc := 38) dL_same_38 (c_80) (by omega) ?_
      refine g_iload (pc := 39) dL_same_39 rfl ?_
      refine g_lshr (pc := 41) dL_same_41 ?_
      refine g_lconst (z := 1) (pc := 42) dL_same_42 rfl ?_
      refine g_land (pc := 43) dL_same_43 ?_
      refine G.eqS (congrArg (fun z => vL z) (um_gx (s_fr σ) (x := (f : Int)) (k := (k : Int)) (by omega) (by omega))) ?_
      refine G.eqS (v' := vL (b2 (decide (s_fr σ k = (f : Int))))) (congrArg (fun z => vL (b2 (decide (s_fr σ z = (f : Int))))) (Int.toNat_natCast k)) ?_
      have b9 := b2_rng (decide (s_fr σ k = (f : Int)))
      refine g_lconst (z := 0) (pc := 44) dL_same_44 rfl ?_
      refine g_lcmp (pc := 45) dL_same_45 (by omega) (by omega) ?_
      have y9 := b_cmp_0 (b2 (decide (s_fr σ k = (f : Int)))) 0
      have r9 := b_cmp_rng (b2 (decide (s_fr σ k = (f : Int)))) 0
      refine g_z_ne (tgt := 52) (pc := 46) dL_same_46 (by omega) (by decide) (fun c46 => ?_) (fun c46 => ?_)
      · skip
        have hbit : s_fr σ k = (f : Int) := of_decide_eq_true (b2_1.mp (by omega))
        have u9 := ct_rng (fun j => decide (s_fr σ j = (f : Int))) k
        refine g_aload_n (i := 0) (pc := 52) dL_same_52 rfl rfl ?_
        refine g_iload (pc := 53) dL_same_53 rfl ?_
        refine g_iload (pc := 55) dL_same_55 rfl ?_
        refine g_iinc (pc := 57) dL_same_57 rfl (by decide) rfl ?_
        simp only [List.set_cons_succ, List.set_cons_zero]
        refine g_vq2 (pc := 60) okV_X3_user rfl l_L_75 dL_same_60 c_0 hc_3 (by decide) (by decide) (Nat.le_of_ble_eq_true rfl) ⟨by omega, by omega⟩ ((hs ▸ t_X3_user hK (f := (f : Int)) (i := (ct (fun j => decide (s_fr σ j = (f : Int))) (k))) (by omega) (by omega))) (by unfold xc_us; rw [if_neg (by omega), if_neg (by omega)]) ?_
        refine G.eqS (congrArg (fun z => vI z) (uat_at hk hbit)) ?_
        refine g_bipush (pc := 63) dL_same_63 (by decide) ?_
        refine g_iload (pc := 65) dL_same_65 rfl ?_
        refine g_bipush (pc := 67) dL_same_67 (by decide) ?_
        refine g_idiv (pc := 69) dL_same_69 (by omega) (by omega) ?_
        refine g_imul (pc := 70) dL_same_70 ?_
        refine g_iload (pc := 71) dL_same_71 rfl ?_
        refine g_bipush (pc := 73) dL_same_73 (by decide) ?_
        refine g_irem (pc := 75) dL_same_75 (by omega) (by omega) ?_
        refine g_iadd (pc := 76) dL_same_76 ?_
        refine G.eqS (congrArg (fun z => vI z) (show 100 * Int.tdiv (k : Int) ((16 : Nat) : Int) + Int.tmod (k : Int) ((16 : Nat) : Int) = 100 * ((k / 16 : Nat) : Int) + ((k % 16 : Nat) : Int) by rw [n_dv, n_md])) ?_
        refine g_c_eq (tgt := 82) (pc := 77) dL_same_77 (by omega) (by decide) (fun c77 => ?_) (fun c77 => absurd c77 (by omega))
        refine g_iinc (pc := 82) dL_same_82 rfl (by decide) rfl ?_
        simp only [List.set_cons_succ, List.set_cons_zero]
        refine g_goto (tgt := 28) (pc := 85) dL_same_85 (by decide) ?_
        refine G.eqL (congrArg (fun z => [some (vR 0), some (vR 79), some (vR 80), some (vR 81), some (vI (0)), some (vI (0)), some (vI (ct (fun f => sh σ f) (f))), some (vI (c7 σ f)), some (vI ((f : Int))), some (vI z), some (vI ((k : Int) + 1)), none, none, none, none, none]) (ct_yes (p := fun j => decide (s_fr σ j = (f : Int))) (decide_eq_true hbit)).symm) ?_
        exact G.bud ih2 (by omega) (by omega)
      · skip
        refine g_goto (tgt := 82) (pc := 49) dL_same_49 (by decide) ?_
        refine g_iinc (pc := 82) dL_same_82 rfl (by decide) rfl ?_
        simp only [List.set_cons_succ, List.set_cons_zero]
        refine g_goto (tgt := 28) (pc := 85) dL_same_85 (by decide) ?_
        refine G.eqL (congrArg (fun z => [some (vR 0), some (vR 79), some (vR 80), some (vR 81), some (vI (0)), some (vI (0)), some (vI (ct (fun f => sh σ f) (f))), some (vI (c7 σ f)), some (vI ((f : Int))), some (vI z), some (vI ((k : Int) + 1)), none, none, none, none, none]) (ct_no (p := fun j => decide (s_fr σ j = (f : Int))) (fun z => by have := b2_t z; omega)).symm) ?_
        exact G.bud ih2 (by omega) (by omega)
end SA9
