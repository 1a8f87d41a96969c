/-! THE LAW'S QUESTIONS (printed by wip/p28/lq.py, but for the first rows) -/
section LQ9
section
variable {M Mj : MT} {scr : Option (Nat × (Nat → Int))} {al alE : Bool} {pc : Nat} {L : List (Option MV)} {S : List MV} {w w1 : List MC} {bc bs : Nat} {Q : (Option MV) ⊕ String → List MC → Prop} {idx : Nat} {r0 : Option MV}
theorem g_ss {n : Nat} {as : List MV} (hok : g_okS Mj n) (hh : mH Mj = []) (hlink : Cond.methodLink (mY M).cls idx (mY Mj) ∈ g_WS) (hd : decode (mC M) pc = .ok (.invokestatic idx, 3)) (hn : as.length = n)
    (hent : (g_ent as).length ≤ mL Mj) (hroom : mF Mj + 1 ≤ mF M ∧ 8 + (mL Mj + 11) + mO Mj ≤ mO M) (hsz : g_sz S ≤ 8) (hj : GM Mj al as w 0 0 (dt r0 w1)) (hlen : w1.length = w.length) (kk : G M scr al alE (pc + 3) L (r0.toList ++ S) w1 bc bs Q) : G M scr al alE pc L (as.reverse ++ S) w bc bs Q :=
  g_callS hok hh hlink hd hn hent hroom hsz ⟨Nat.zero_le _, Nat.zero_le _⟩ hj (fun _ r w' h => by rw [h.2, hlen]; rfl) (fun r w' h => by cases h.1; rw [h.2]; exact kk) (fun E w' h => nomatch h.1)
theorem g_sJ {x : Int} (hok : g_okS Mj 1) (hh : mH Mj = []) (hlink : Cond.methodLink (mY M).cls idx (mY Mj) ∈ g_WS) (hd : decode (mC M) pc = .ok (.invokestatic idx, 3))
    (hent : 2 ≤ mL Mj) (hroom : mF Mj + 1 ≤ mF M ∧ 8 + (mL Mj + 11) + mO Mj ≤ mO M) (hsz : g_sz S ≤ 8) (hj : GM Mj al [vL x] w 0 0 (dt r0 w1)) (hlen : w1.length = w.length) (kk : G M scr al alE (pc + 3) L (r0.toList ++ S) w1 bc bs Q) : G M scr al alE pc L (vL x :: S) w bc bs Q :=
  g_ss (as := [vL x]) hok hh hlink hd rfl hent hroom hsz hj hlen kk
theorem g_sR {b1 : Nat} (hok : g_okS Mj 1) (hh : mH Mj = []) (hlink : Cond.methodLink (mY M).cls idx (mY Mj) ∈ g_WS) (hd : decode (mC M) pc = .ok (.invokestatic idx, 3))
    (hent : 1 ≤ mL Mj) (hroom : mF Mj + 1 ≤ mF M ∧ 8 + (mL Mj + 11) + mO Mj ≤ mO M) (hsz : g_sz S ≤ 8) (hj : GM Mj al [vR b1] w 0 0 (dt r0 w1)) (hlen : w1.length = w.length) (kk : G M scr al alE (pc + 3) L (r0.toList ++ S) w1 bc bs Q) : G M scr al alE pc L (vR b1 :: S) w bc bs Q :=
  g_ss (as := [vR b1]) hok hh hlink hd rfl hent hroom hsz hj hlen kk
theorem g_sIR {x : Int} {b1 : Nat} (hok : g_okS Mj 2) (hh : mH Mj = []) (hlink : Cond.methodLink (mY M).cls idx (mY Mj) ∈ g_WS) (hd : decode (mC M) pc = .ok (.invokestatic idx, 3))
    (hent : 2 ≤ mL Mj) (hroom : mF Mj + 1 ≤ mF M ∧ 8 + (mL Mj + 11) + mO Mj ≤ mO M) (hsz : g_sz S ≤ 8) (hj : GM Mj al [vI x, vR b1] w 0 0 (dt r0 w1)) (hlen : w1.length = w.length) (kk : G M scr al alE (pc + 3) L (r0.toList ++ S) w1 bc bs Q) : G M scr al alE pc L (vR b1 :: vI x :: S) w bc bs Q :=
  g_ss (as := [vI x, vR b1]) hok hh hlink hd rfl hent hroom hsz hj hlen kk
theorem g_sII {x y : Int} (hok : g_okS Mj 2) (hh : mH Mj = []) (hlink : Cond.methodLink (mY M).cls idx (mY Mj) ∈ g_WS) (hd : decode (mC M) pc = .ok (.invokestatic idx, 3))
    (hent : 2 ≤ mL Mj) (hroom : mF Mj + 1 ≤ mF M ∧ 8 + (mL Mj + 11) + mO Mj ≤ mO M) (hsz : g_sz S ≤ 8) (hj : GM Mj al [vI x, vI y] w 0 0 (dt r0 w1)) (hlen : w1.length = w.length) (kk : G M scr al alE (pc + 3) L (r0.toList ++ S) w1 bc bs Q) : G M scr al alE pc L (vI y :: vI x :: S) w bc bs Q :=
  g_ss (as := [vI x, vI y]) hok hh hlink hd rfl hent hroom hsz hj hlen kk
theorem g_sIRR {x : Int} {b1 b2 : Nat} (hok : g_okS Mj 3) (hh : mH Mj = []) (hlink : Cond.methodLink (mY M).cls idx (mY Mj) ∈ g_WS) (hd : decode (mC M) pc = .ok (.invokestatic idx, 3))
    (hent : 3 ≤ mL Mj) (hroom : mF Mj + 1 ≤ mF M ∧ 8 + (mL Mj + 11) + mO Mj ≤ mO M) (hsz : g_sz S ≤ 8) (hj : GM Mj al [vI x, vR b1, vR b2] w 0 0 (dt r0 w1)) (hlen : w1.length = w.length) (kk : G M scr al alE (pc + 3) L (r0.toList ++ S) w1 bc bs Q) : G M scr al alE pc L (vR b2 :: vR b1 :: vI x :: S) w bc bs Q :=
  g_ss (as := [vI x, vR b1, vR b2]) hok hh hlink hd rfl hent hroom hsz hj hlen kk
theorem g_sIRRR {x : Int} {b1 b2 b3 : Nat} (hok : g_okS Mj 4) (hh : mH Mj = []) (hlink : Cond.methodLink (mY M).cls idx (mY Mj) ∈ g_WS) (hd : decode (mC M) pc = .ok (.invokestatic idx, 3))
    (hent : 4 ≤ mL Mj) (hroom : mF Mj + 1 ≤ mF M ∧ 8 + (mL Mj + 11) + mO Mj ≤ mO M) (hsz : g_sz S ≤ 8) (hj : GM Mj al [vI x, vR b1, vR b2, vR b3] w 0 0 (dt r0 w1)) (hlen : w1.length = w.length) (kk : G M scr al alE (pc + 3) L (r0.toList ++ S) w1 bc bs Q) : G M scr al alE pc L (vR b3 :: vR b2 :: vR b1 :: vI x :: S) w bc bs Q :=
  g_ss (as := [vI x, vR b1, vR b2, vR b3]) hok hh hlink hd rfl hent hroom hsz hj hlen kk
theorem g_sIIRRR {x y : Int} {b1 b2 b3 : Nat} (hok : g_okS Mj 5) (hh : mH Mj = []) (hlink : Cond.methodLink (mY M).cls idx (mY Mj) ∈ g_WS) (hd : decode (mC M) pc = .ok (.invokestatic idx, 3))
    (hent : 5 ≤ mL Mj) (hroom : mF Mj + 1 ≤ mF M ∧ 8 + (mL Mj + 11) + mO Mj ≤ mO M) (hsz : g_sz S ≤ 8) (hj : GM Mj al [vI x, vI y, vR b1, vR b2, vR b3] w 0 0 (dt r0 w1)) (hlen : w1.length = w.length) (kk : G M scr al alE (pc + 3) L (r0.toList ++ S) w1 bc bs Q) : G M scr al alE pc L (vR b3 :: vR b2 :: vR b1 :: vI y :: vI x :: S) w bc bs Q :=
  g_ss (as := [vI x, vI y, vR b1, vR b2, vR b3]) hok hh hlink hd rfl hent hroom hsz hj hlen kk
theorem g_sR6 {b1 b2 b3 b4 b5 b6 : Nat} (hok : g_okS Mj 6) (hh : mH Mj = []) (hlink : Cond.methodLink (mY M).cls idx (mY Mj) ∈ g_WS) (hd : decode (mC M) pc = .ok (.invokestatic idx, 3))
    (hent : 6 ≤ mL Mj) (hroom : mF Mj + 1 ≤ mF M ∧ 8 + (mL Mj + 11) + mO Mj ≤ mO M) (hsz : g_sz S ≤ 8) (hj : GM Mj al [vR b1, vR b2, vR b3, vR b4, vR b5, vR b6] w 0 0 (dt r0 w1)) (hlen : w1.length = w.length) (kk : G M scr al alE (pc + 3) L (r0.toList ++ S) w1 bc bs Q) : G M scr al alE pc L (vR b6 :: vR b5 :: vR b4 :: vR b3 :: vR b2 :: vR b1 :: S) w bc bs Q :=
  g_ss (as := [vR b1, vR b2, vR b3, vR b4, vR b5, vR b6]) hok hh hlink hd rfl hent hroom hsz hj hlen kk
theorem G.eqL2 {F : Int → Int → List (Option MV)} {x y x' y' : Int} (hx : x = x') (hy : y = y') (k : G M scr al alE pc (F x' y') S w bc bs Q) : G M scr al alE pc (F x y) S w bc bs Q := by rw [hx, hy]; exact k
theorem G.eqL3 {F : Int → Int → Int → List (Option MV)} {x y z x' y' z' : Int} (hx : x = x') (hy : y = y') (hz : z = z') (k : G M scr al alE pc (F x' y' z') S w bc bs Q) : G M scr al alE pc (F x y z) S w bc bs Q := by rw [hx, hy, hz]; exact k
end
theorem um_gx (fr : Nat → Int) {x k : Int} (hx : 0 ≤ x) (hk : 0 ≤ k ∧ k < 64) : b_andL (b_shrL (um fr x.toNat) k) 1 = b2 (decide (fr k.toNat = x)) := by
  obtain ⟨n, rfl⟩ := Int.eq_ofNat_of_zero_le hk.1
  rw [um_get fr x.toNat (by omega), Int.toNat_of_nonneg hx, Int.toNat_natCast]
theorem um_rf {σ : SG} {r : Int} (hr : 0 ≤ r) : b_orL (b_orL (b_orL (um (s_fr σ) (4 * r).toNat) (um (s_fr σ) (4 * r + 1).toNat)) (um (s_fr σ) (4 * r + 2).toNat)) (um (s_fr σ) (4 * r + 3).toNat) = 0 ↔ b2 (rf σ r) = 1 := by
  rw [b2_1, um_or, rf_iff hr, Int.toNat_of_nonneg (by omega), Int.toNat_of_nonneg (by omega), Int.toNat_of_nonneg (by omega), Int.toNat_of_nonneg (by omega)]
theorem pf_lack {σ : SG} {p g : Int} {j : Nat} (hj : j < 4) (h : fo σ p (4 * g + j) = -1) : pf σ p g < 4 := by
  rcases (by omega : pf σ p g < 4 ∨ ¬ pf σ p g < 4) with q | q
  · exact q
  · exact absurd h (pf_all q hj)
theorem pf_full {σ : SG} {p g : Int} (h : ∀ i : Nat, i < 4 → fo σ p (4 * g + i) ≠ -1) : ¬ pf σ p g < 4 := by
  have e : pf σ p g = ct (fun _ => true) 4 := ct_cong fun i hi => decide_eq_true (h i hi)
  rw [e]
  decide
theorem sh_one {σ : SG} {p v : Int} (hp : 0 ≤ p ∧ p < 4) (hv : 0 ≤ v ∧ v < 16) (h : fo σ p v ≠ -1) : sh σ (fo σ p v) = true ↔ ¬ uses (s_fr σ) (fo σ p v) = 1 := by
  have h1 := uses_pos (fr := s_fr σ) (k := (16 * p + v).toNat) (g := fo σ p v) (by omega) (by rw [fo_in hp hv])
  unfold sh
  rw [decide_eq_true_eq]
  constructor
  · rintro ⟨-, q⟩; omega
  · intro q; exact ⟨h, by omega⟩
/-- is it in place, as far as the first k pages say -/
def ipk (σ : SG) (p g : Int) (k : Nat) : Bool := decide (fo σ p (4 * g) ≠ -1 ∧ (fo σ p (4 * g)).tmod 4 = 0 ∧ ∀ i : Nat, i < k → 1 ≤ i → fo σ p (4 * g + i) = fo σ p (4 * g) + i)
theorem ipk_4 (σ : SG) (p g : Int) : ipk σ p g 4 = ip σ p g := rfl
theorem ipk_1 {σ : SG} {p g : Int} : ipk σ p g 1 = true ↔ fo σ p (4 * g) ≠ -1 ∧ (fo σ p (4 * g)).tmod 4 = 0 := by
  unfold ipk
  rw [decide_eq_true_eq]
  constructor
  · rintro ⟨a, b, -⟩; exact ⟨a, b⟩
  · rintro ⟨a, b⟩; exact ⟨a, b, fun i h1 h2 => by omega⟩
theorem ipk_s {σ : SG} {p g : Int} {k : Nat} (hk : 1 ≤ k) : ipk σ p g (k + 1) = true ↔ ipk σ p g k = true ∧ fo σ p (4 * g + k) = fo σ p (4 * g) + k := by
  unfold ipk
  rw [decide_eq_true_eq, decide_eq_true_eq]
  constructor
  · rintro ⟨a, b, c⟩; exact ⟨⟨a, b, fun i h1 h2 => c i (by omega) h2⟩, c k (by omega) hk⟩
  · rintro ⟨⟨a, b, c⟩, d⟩
    refine ⟨a, b, fun i h1 h2 => ?_⟩
    rcases Nat.lt_or_ge i k with q | q
    · exact c i q h2
    · rw [show i = k by omega]; exact d
set_option maxRecDepth 20000 in
set_option maxHeartbeats 400000 in
theorem t_L_one {w : List MC} {P : Nat → Bool} {al : Bool} : GM M_L_one al [vL (pL P)] (w) 0 0 (dt (some (vI (b2 (decide (ct P 64 = 1))))) (w)) := by
  show G _ none _ _ 0 [some (vL (pL P)), none] [] _ _ _ _
  have h0 := pL_rng P
  have h1 := andL_rng (pL P) (pL P - 1)
  have z1 : pL P = 0 ↔ ct P 64 = 0 := m_zero
  have z2 : ¬ pL P = 0 → (b_andL (pL P) (pL P - 1) = 0 ↔ ct P 64 = 1) := m_one
  refine g_lload_n (i := 0) (pc := 0) dL_one_0 rfl rfl ?_
  refine g_lconst (z := 0) (pc := 1) dL_one_1 rfl ?_
  refine g_lcmp (pc := 2) dL_one_2 (by omega) (by omega) ?_
  have y1 := b_cmp_0 (pL P) 0
  have r1 := b_cmp_rng (pL P) 0
  refine g_z_eq (tgt := 20) (pc := 3) dL_one_3 (by omega) (by decide) (fun c3 => ?_) (fun c3 => ?_)
  · skip
    refine g_iconst (pc := 20) dL_one_20 ?_
    refine g_zret (pc := 21) rfl dL_one_21 (by omega) (fun h => h) ?_
    first
    | exact dt_i (b2_t (by rw [decide_eq_true_eq]; omega)).symm rfl
    | exact dt_i (b2_f (by rw [decide_eq_true_eq]; omega)).symm rfl
  · skip
    refine g_lload_n (i := 0) (pc := 6) dL_one_6 rfl rfl ?_
    refine g_lload_n (i := 0) (pc := 7) dL_one_7 rfl rfl ?_
    refine g_lconst (z := 1) (pc := 8) dL_one_8 rfl ?_
    refine g_lsub (pc := 9) dL_one_9 ?_
    refine g_land (pc := 10) dL_one_10 ?_
    refine g_lconst (z := 0) (pc := 11) dL_one_11 rfl ?_
    refine g_lcmp (pc := 12) dL_one_12 (by omega) (by omega) ?_
    have y2 := b_cmp_0 (b_andL (pL P) (pL P - 1)) 0
    have r2 := b_cmp_rng (b_andL (pL P) (pL P - 1)) 0
    refine g_z_ne (tgt := 20) (pc := 13) dL_one_13 (by omega) (by decide) (fun c13 => ?_) (fun c13 => ?_)
    · skip
      refine g_iconst (pc := 20) dL_one_20 ?_
      refine g_zret (pc := 21) rfl dL_one_21 (by omega) (fun h => h) ?_
      first
      | exact dt_i (b2_t (by rw [decide_eq_true_eq]; omega)).symm rfl
      | exact dt_i (b2_f (by rw [decide_eq_true_eq]; omega)).symm rfl
    · skip
      refine g_iconst (pc := 16) dL_one_16 ?_
      refine g_goto (tgt := 21) (pc := 17) dL_one_17 (by decide) ?_
      refine g_zret (pc := 21) rfl dL_one_21 (by omega) (fun h => h) ?_
      first
      | exact dt_i (b2_t (by rw [decide_eq_true_eq]; omega)).symm rfl
      | exact dt_i (b2_f (by rw [decide_eq_true_eq]; omega)).symm rfl
theorem t_L_onex {w : List MC} {fr : Nat → Int} {x : Int} {al : Bool} (hx : 0 ≤ x) : GM M_L_one al [vL (um fr x.toNat)] w 0 0 (dt (some (vI (b2 (decide (uses fr x = 1))))) w) := by
  have h := t_L_one (w := w) (P := fun k => decide (fr k = ((x.toNat : Nat) : Int))) (al := al)
  have e : decide (uses fr x = 1) = decide (ct (fun k => decide (fr k = ((x.toNat : Nat) : Int))) 64 = 1) := by
    have e2 : ct (fun k => decide (fr k = ((x.toNat : Nat) : Int))) 64 = uses fr x := by
      rw [Int.toNat_of_nonneg hx]; rfl
    rw [e2]
  rw [e]
  exact h

set_option maxRecDepth 20000 in
set_option maxHeartbeats 400000 in
theorem t_L_frame {w : List MC} {b : Nat} {σ : SG} {al : Bool} (hu : w[b]? = some (cArr 3 32 (um (s_fr σ)))) (hi : Inv σ) {k : Int} (h_k : 0 ≤ k ∧ k < 64) : GM M_L_frame al [vI k, vR b] (w) 0 0 (dt (some (vI (s_fr σ k.toNat))) (w)) := by
  show G _ none _ _ 0 [some (vI k), some (vR b), none] [] _ _ _ _
  refine g_iconst (pc := 0) dL_frame_0 ?_
  refine g_istore_n (i := 2) (pc := 1) dL_frame_1 rfl (by decide) rfl ?_
  simp only [List.set_cons_succ, List.set_cons_zero]
  refine lp_up (P := fun f => (∀ j : Nat, j < f → ¬ s_fr σ k.toNat = j) → G M_L_frame none al al 2 [some (vI k), some (vR b), some (vI f)] [] w 0 0 (dt (some (vI (s_fr σ k.toNat))) (w))) 32 ?_ ?_ 0 (Nat.zero_le _) (fun i h => absurd h (Nat.not_lt_zero i))
  · intro hH
    refine g_iload_n (i := 2) (pc := 2) dL_frame_2 rfl rfl ?_
    refine g_bipush (pc := 3) dL_frame_3 (by decide) ?_
    refine g_c_ge (tgt := 28) (pc := 5) dL_frame_5 (by omega) (by decide) (fun c5 => ?_) (fun c5 => absurd c5 (by omega))
    refine g_iconst (pc := 28) dL_frame_28 ?_
    refine g_iret (pc := 29) rfl dL_frame_29 (fun h => h) ?_
    refine dt_i ?_ rfl
    have h1 := hi.1 k.toNat
    rcases (by omega : s_fr σ k.toNat = -1 ∨ 0 ≤ s_fr σ k.toNat) with q | q
    · exact q.symm
    · exact absurd (Int.toNat_of_nonneg q).symm (hH (s_fr σ k.toNat).toNat (by omega))
  · intro f hf ih hH
    refine g_iload_n (i := 2) (pc := 2) dL_frame_2 rfl rfl ?_
    refine g_bipush (pc := 3) dL_frame_3 (by decide) ?_
    refine g_c_ge (tgt := 28) (pc := 5) dL_frame_5 (by omega) (by decide) (fun c5 => absurd c5 (by omega)) (fun c5 => ?_)
    refine g_aload_n (i := 1) (pc := 8) dL_frame_8 rfl rfl ?_
    refine g_iload_n (i := 2) (pc := 9) dL_frame_9 rfl rfl ?_
    refine g_lald (pc := 10) dL_frame_10 (hu) (by omega) ?_
    refine g_iload_n (i := 0) (pc := 11) dL_frame_11 rfl rfl ?_
    refine g_lshr (pc := 12) dL_frame_12 ?_
    refine g_lconst (z := 1) (pc := 13) dL_frame_13 rfl ?_
    refine g_land (pc := 14) dL_frame_14 ?_
    refine G.eqS (congrArg (fun z => vL z) (um_gx (s_fr σ) (x := (f : Int)) (by omega) h_k)) ?_
    have b9 := b2_rng (decide (s_fr σ k.toNat = (f : Int)))
    refine g_lconst (z := 1) (pc := 15) dL_frame_15 rfl ?_
    refine g_lcmp (pc := 16) dL_frame_16 (by omega) (by omega) ?_
    have y9 := b_cmp_0 (b2 (decide (s_fr σ k.toNat = (f : Int)))) 1
    have r9 := b_cmp_rng (b2 (decide (s_fr σ k.toNat = (f : Int)))) 1
    refine g_z_ne (tgt := 22) (pc := 17) dL_frame_17 (by omega) (by decide) (fun c17 => ?_) (fun c17 => ?_)
    · skip
      refine g_iinc (pc := 22) dL_frame_22 rfl (by decide) rfl ?_
      simp only [List.set_cons_succ, List.set_cons_zero]
      refine g_goto (tgt := 2) (pc := 25) dL_frame_25 (by decide) ?_
      refine ih (fun j h => ?_)
      rcases Nat.lt_or_ge j f with q | q
      · exact hH j q
      · rw [show j = f by omega]; intro z; have := b2_t (b := decide (s_fr σ k.toNat = (f : Int))) (decide_eq_true z); omega
    · skip
      refine g_iload_n (i := 2) (pc := 20) dL_frame_20 rfl rfl ?_
      refine g_iret (pc := 21) rfl dL_frame_21 (fun h => h) ?_
      have z9 : s_fr σ k.toNat = (f : Int) := of_decide_eq_true (b2_1.mp (by omega))
      exact dt_i z9.symm rfl
set_option maxRecDepth 20000 in
set_option maxHeartbeats 400000 in
theorem t_L_freeRun {w : List MC} {b : Nat} {σ : SG} {al : Bool} (hu : w[b]? = some (cArr 3 32 (um (s_fr σ)))) (hi : Inv σ) {r : Int} (h_r : 0 ≤ r ∧ r < 8) : GM M_L_freeRun al [vI r, vR b] (w) 0 0 (dt (some (vI (b2 (rf σ r)))) (w)) := by
  show G _ none _ _ 0 [some (vI r), some (vR b)] [] _ _ _ _
  refine g_aload_n (i := 1) (pc := 0) dL_freeRun_0 rfl rfl ?_
  refine g_iconst (pc := 1) dL_freeRun_1 ?_
  refine g_iload_n (i := 0) (pc := 2) dL_freeRun_2 rfl rfl ?_
  refine g_imul (pc := 3) dL_freeRun_3 ?_
  refine g_lald (pc := 4) dL_freeRun_4 (hu) (by omega) ?_
  refine g_aload_n (i := 1) (pc := 5) dL_freeRun_5 rfl rfl ?_
  refine g_iconst (pc := 6) dL_freeRun_6 ?_
  refine g_iload_n (i := 0) (pc := 7) dL_freeRun_7 rfl rfl ?_
  refine g_imul (pc := 8) dL_freeRun_8 ?_
  refine g_iconst (pc := 9) dL_freeRun_9 ?_
  refine g_iadd (pc := 10) dL_freeRun_10 ?_
  refine g_lald (pc := 11) dL_freeRun_11 (hu) (by omega) ?_
  refine g_lor (pc := 12) dL_freeRun_12 ?_
  refine g_aload_n (i := 1) (pc := 13) dL_freeRun_13 rfl rfl ?_
  refine g_iconst (pc := 14) dL_freeRun_14 ?_
  refine g_iload_n (i := 0) (pc := 15) dL_freeRun_15 rfl rfl ?_
  refine g_imul (pc := 16) dL_freeRun_16 ?_
  refine g_iconst (pc := 17) dL_freeRun_17 ?_
  refine g_iadd (pc := 18) dL_freeRun_18 ?_
  refine g_lald (pc := 19) dL_freeRun_19 (hu) (by omega) ?_
  refine g_lor (pc := 20) dL_freeRun_20 ?_
  refine g_aload_n (i := 1) (pc := 21) dL_freeRun_21 rfl rfl ?_
  refine g_iconst (pc := 22) dL_freeRun_22 ?_
  refine g_iload_n (i := 0) (pc := 23) dL_freeRun_23 rfl rfl ?_
  refine g_imul (pc := 24) dL_freeRun_24 ?_
  refine g_iconst (pc := 25) dL_freeRun_25 ?_
  refine g_iadd (pc := 26) dL_freeRun_26 ?_
  refine g_lald (pc := 27) dL_freeRun_27 (hu) (by omega) ?_
  refine g_lor (pc := 28) dL_freeRun_28 ?_
  refine g_lconst (z := 0) (pc := 29) dL_freeRun_29 rfl ?_
  have o9 := orL_rng (b_orL (b_orL (um (s_fr σ) (4 * r).toNat) (um (s_fr σ) (4 * r + 1).toNat)) (um (s_fr σ) (4 * r + 2).toNat)) (um (s_fr σ) (4 * r + 3).toNat)
  refine g_lcmp (pc := 30) dL_freeRun_30 (by omega) (by omega) ?_
  have y9 := b_cmp_0 (b_orL (b_orL (b_orL (um (s_fr σ) (4 * r).toNat) (um (s_fr σ) (4 * r + 1).toNat)) (um (s_fr σ) (4 * r + 2).toNat)) (um (s_fr σ) (4 * r + 3).toNat)) 0
  have r9 := b_cmp_rng (b_orL (b_orL (b_orL (um (s_fr σ) (4 * r).toNat) (um (s_fr σ) (4 * r + 1).toNat)) (um (s_fr σ) (4 * r + 2).toNat)) (um (s_fr σ) (4 * r + 3).toNat)) 0
  have z9 := um_rf (σ := σ) (r := r) (by omega)
  have z8 := b2_rng (rf σ r)
  refine g_z_ne (tgt := 38) (pc := 31) dL_freeRun_31 (by omega) (by decide) (fun c31 => ?_) (fun c31 => ?_)
  · skip
    refine g_iconst (pc := 38) dL_freeRun_38 ?_
    refine g_zret (pc := 39) rfl dL_freeRun_39 (by omega) (fun h => h) ?_
    exact dt_i (by omega) rfl
  · skip
    refine g_iconst (pc := 34) dL_freeRun_34 ?_
    refine g_goto (tgt := 39) (pc := 35) dL_freeRun_35 (by decide) ?_
    refine g_zret (pc := 39) rfl dL_freeRun_39 (by omega) (fun h => h) ?_
    exact dt_i (by omega) rfl
set_option maxRecDepth 20000 in
set_option maxHeartbeats 400000 in
theorem t_L_run {w : List MC} {b : Nat} {σ : SG} {al : Bool} (hu : w[b]? = some (cArr 3 32 (um (s_fr σ)))) (hi : Inv σ) : GM M_L_run al [vR b] (w) 0 0 (dt (some (vI (lfr σ))) (w)) := by
  show G _ none _ _ 0 [some (vR b), none] [] _ _ _ _
  refine g_iconst (pc := 0) dL_run_0 ?_
  refine g_istore_n (i := 1) (pc := 1) dL_run_1 rfl (by decide) rfl ?_
  simp only [List.set_cons_succ, List.set_cons_zero]
  refine lp_up (P := fun k => (∀ j : Nat, j < k → ¬ rf σ j = true) → G M_L_run none al al 2 [some (vR b), some (vI k)] [] w 0 0 (dt (some (vI (lfr σ))) (w))) 8 ?_ ?_ 0 (Nat.zero_le _) (fun i h => absurd h (Nat.not_lt_zero i))
  · intro hH
    refine g_iload_n (i := 1) (pc := 2) dL_run_2 rfl rfl ?_
    refine g_bipush (pc := 3) dL_run_3 (by decide) ?_
    refine g_c_ge (tgt := 24) (pc := 5) dL_run_5 (by omega) (by decide) (fun c5 => ?_) (fun c5 => absurd c5 (by omega))
    refine g_iconst (pc := 24) dL_run_24 ?_
    refine g_iret (pc := 25) rfl dL_run_25 (fun h => h) ?_
    exact dt_i (ff_none hH).symm rfl
  · intro k hk ih hH
    refine g_iload_n (i := 1) (pc := 2) dL_run_2 rfl rfl ?_
    refine g_bipush (pc := 3) dL_run_3 (by decide) ?_
    refine g_c_ge (tgt := 24) (pc := 5) dL_run_5 (by omega) (by decide) (fun c5 => absurd c5 (by omega)) (fun c5 => ?_)
    refine g_iload_n (i := 1) (pc := 8) dL_run_8 rfl rfl ?_
    refine g_aload_n (i := 0) (pc := 9) dL_run_9 rfl rfl ?_
    refine g_sIR (pc := 10) okS_L_freeRun rfl l_L_36 dL_run_10 (by decide) (by decide) (Nat.le_of_ble_eq_true rfl) (t_L_freeRun (σ := σ) hu hi (by omega)) rfl ?_
    simp only [Option.toList, List.cons_append, List.nil_append]
    have bb := b2_rng (rf σ ((k : Int)))
    refine g_z_eq (tgt := 18) (pc := 13) dL_run_13 (by omega) (by decide) (fun c13 => ?_) (fun c13 => ?_)
    · skip
      refine g_iinc (pc := 18) dL_run_18 rfl (by decide) rfl ?_
      simp only [List.set_cons_succ, List.set_cons_zero]
      refine g_goto (tgt := 2) (pc := 21) dL_run_21 (by decide) ?_
      refine ih (fun i h => ?_)
      rcases Nat.lt_or_ge i k with q | q
      · exact hH i q
      · rw [show i = k by omega]; exact b2_0.mp (by omega)
    · skip
      refine g_iload_n (i := 1) (pc := 16) dL_run_16 rfl rfl ?_
      refine g_iret (pc := 17) rfl dL_run_17 (fun h => h) ?_
      exact dt_i (ff_some (b2_1.mp (by omega)) hH hk).symm rfl
set_option maxRecDepth 20000 in
set_option maxHeartbeats 400000 in
theorem t_L_single {w : List MC} {b : Nat} {σ : SG} {al : Bool} (hu : w[b]? = some (cArr 3 32 (um (s_fr σ)))) (hi : Inv σ) : GM M_L_single al [vR b] (w) 0 0 (dt (some (vI (lsf σ))) (w)) := by
  show G _ none _ _ 0 [some (vR b), none] [] _ _ _ _
  refine g_iconst (pc := 0) dL_single_0 ?_
  refine g_istore_n (i := 1) (pc := 1) dL_single_1 rfl (by decide) rfl ?_
  simp only [List.set_cons_succ, List.set_cons_zero]
  refine lp_up (P := fun k => (∀ j : Nat, j < k → ¬ (fun f : Nat => decide (uses (s_fr σ) f = 0) && !(rf σ ((f : Int).tdiv 4))) j = true) → G M_L_single none al al 2 [some (vR b), some (vI k)] [] w 0 0 (dt (some (vI (lsf σ))) (w))) 32 ?_ ?_ 0 (Nat.zero_le _) (fun i h => absurd h (Nat.not_lt_zero i))
  · intro hH
    have e1 : lsf1 σ = -1 := ff_none hH
    refine g_iload_n (i := 1) (pc := 2) dL_single_2 rfl rfl ?_
    refine g_bipush (pc := 3) dL_single_3 (by decide) ?_
    refine g_c_ge (tgt := 34) (pc := 5) dL_single_5 (by omega) (by decide) (fun c5 => ?_) (fun c5 => absurd c5 (by omega))
    refine g_aload_n (i := 0) (pc := 34) dL_single_34 rfl rfl ?_
    refine g_sR (pc := 35) okS_L_run rfl l_L_42 dL_single_35 (by decide) (by decide) (Nat.le_of_ble_eq_true rfl) (t_L_run (σ := σ) hu hi) rfl ?_
    simp only [Option.toList, List.cons_append, List.nil_append]
    have bb := lfr_rng σ
    have hL : lsf σ = if lfr σ = -1 then -1 else 4 * lfr σ := by rw [lsf_law, if_pos e1]
    refine g_istore_n (i := 1) (pc := 38) dL_single_38 rfl (by decide) rfl ?_
    simp only [List.set_cons_succ, List.set_cons_zero]
    refine g_iload_n (i := 1) (pc := 39) dL_single_39 rfl rfl ?_
    refine g_z_ge (tgt := 47) (pc := 40) dL_single_40 (by omega) (by decide) (fun c40 => ?_) (fun c40 => ?_)
    · skip
      refine g_iconst (pc := 47) dL_single_47 ?_
      refine g_iload_n (i := 1) (pc := 48) dL_single_48 rfl rfl ?_
      refine g_imul (pc := 49) dL_single_49 ?_
      refine g_iret (pc := 50) rfl dL_single_50 (fun h => h) ?_
      first
      | (refine dt_i ?_ rfl; rw [hL, if_pos (by omega)]; done)
      | (refine dt_i ?_ rfl; rw [hL, if_neg (by omega)])
    · skip
      refine g_iconst (pc := 43) dL_single_43 ?_
      refine g_goto (tgt := 50) (pc := 44) dL_single_44 (by decide) ?_
      refine g_iret (pc := 50) rfl dL_single_50 (fun h => h) ?_
      first
      | (refine dt_i ?_ rfl; rw [hL, if_pos (by omega)]; done)
      | (refine dt_i ?_ rfl; rw [hL, if_neg (by omega)])
  · intro k hk ih hH
    refine g_iload_n (i := 1) (pc := 2) dL_single_2 rfl rfl ?_
    refine g_bipush (pc := 3) dL_single_3 (by decide) ?_
    refine g_c_ge (tgt := 34) (pc := 5) dL_single_5 (by omega) (by decide) (fun c5 => absurd c5 (by omega)) (fun c5 => ?_)
    refine g_aload_n (i := 0) (pc := 8) dL_single_8 rfl rfl ?_
    refine g_iload_n (i := 1) (pc := 9) dL_single_9 rfl rfl ?_
    refine g_lald (pc := 10) dL_single_10 (hu) (by omega) ?_
    have u9 := um_rng (s_fr σ) (k : Int).toNat
    have u8 := um_0x (fr := s_fr σ) (x := (k : Int)) (by omega)
    refine g_lconst (z := 0) (pc := 11) dL_single_11 rfl ?_
    refine g_lcmp (pc := 12) dL_single_12 (by omega) (by omega) ?_
    have y9 := b_cmp_0 (um (s_fr σ) (k : Int).toNat) 0
    have r9 := b_cmp_rng (um (s_fr σ) (k : Int).toNat) 0
    refine g_z_ne (tgt := 28) (pc := 13) dL_single_13 (by omega) (by decide) (fun c13 => ?_) (fun c13 => ?_)
    · skip
      refine g_iinc (pc := 28) dL_single_28 rfl (by decide) rfl ?_
      simp only [List.set_cons_succ, List.set_cons_zero]
      refine g_goto (tgt := 2) (pc := 31) dL_single_31 (by decide) ?_
      refine ih (fun i h => ?_)
      rcases Nat.lt_or_ge i k with q | q
      · exact hH i q
      · rw [show i = k by omega]
        intro z
        rw [Bool.and_eq_true, decide_eq_true_eq, Bool.not_eq_true'] at z
        omega
    · skip
      refine g_iload_n (i := 1) (pc := 16) dL_single_16 rfl rfl ?_
      refine g_iconst (pc := 17) dL_single_17 ?_
      have d9 := Int.tdiv_eq_ediv_of_nonneg (a := (k : Int)) (b := 4) (by omega)
      refine g_idiv (pc := 18) dL_single_18 (by omega) (by omega) ?_
      refine g_aload_n (i := 0) (pc := 19) dL_single_19 rfl rfl ?_
      refine g_sIR (pc := 20) okS_L_freeRun rfl l_L_36 dL_single_20 (by decide) (by decide) (Nat.le_of_ble_eq_true rfl) (t_L_freeRun (σ := σ) hu hi (by omega)) rfl ?_
      simp only [Option.toList, List.cons_append, List.nil_append]
      have bb := b2_rng (rf σ ((Int.tdiv (k : Int) 4)))
      refine g_z_ne (tgt := 28) (pc := 23) dL_single_23 (by omega) (by decide) (fun c23 => ?_) (fun c23 => ?_)
      · skip
        refine g_iinc (pc := 28) dL_single_28 rfl (by decide) rfl ?_
        simp only [List.set_cons_succ, List.set_cons_zero]
        refine g_goto (tgt := 2) (pc := 31) dL_single_31 (by decide) ?_
        refine ih (fun i h => ?_)
        rcases Nat.lt_or_ge i k with q | q
        · exact hH i q
        · rw [show i = k by omega]
          intro z
          rw [Bool.and_eq_true, decide_eq_true_eq, Bool.not_eq_true'] at z
          have := b2_0.mpr (show ¬ rf σ ((k : Int).tdiv 4) = true by rw [z.2]; decide)
          omega
      · skip
        refine g_iload_n (i := 1) (pc := 26) dL_single_26 rfl rfl ?_
        refine g_iret (pc := 27) rfl dL_single_27 (fun h => h) ?_
        refine dt_i ?_ rfl
        have h9 : lsf1 σ = (k : Int) := ff_some (p := fun f : Nat => decide (uses (s_fr σ) f = 0) && !(rf σ ((f : Int).tdiv 4))) (k := k) (by rw [Bool.and_eq_true, decide_eq_true_eq, Bool.not_eq_true', ← Bool.not_eq_true]; exact ⟨by omega, b2_0.mp (by omega)⟩) hH hk
        rw [lsf_law, if_neg (by omega), h9]
set_option maxRecDepth 20000 in
set_option maxHeartbeats 400000 in
theorem t_L_free {w : List MC} {b : Nat} {σ : SG} {al : Bool} (hu : w[b]? = some (cArr 3 32 (um (s_fr σ)))) (hi : Inv σ) : GM M_L_free al [vR b] (w) 0 0 (dt (some (vI (nff σ))) (w)) := by
  show G _ none _ _ 0 [some (vR b), none, none] [] _ _ _ _
  refine g_iconst (pc := 0) dL_free_0 ?_
  refine g_istore_n (i := 1) (pc := 1) dL_free_1 rfl (by decide) rfl ?_
  simp only [List.set_cons_succ, List.set_cons_zero]
  refine g_iconst (pc := 2) dL_free_2 ?_
  refine g_istore_n (i := 2) (pc := 3) dL_free_3 rfl (by decide) rfl ?_
  simp only [List.set_cons_succ, List.set_cons_zero]
  refine lp_up (P := fun k => G M_L_free none al al 4 [some (vR b), some (vI (ct (fun f => decide (uses (s_fr σ) f = 0)) k)), some (vI k)] [] w 0 0 (dt (some (vI (nff σ))) (w))) 32 ?_ ?_ 0 (Nat.zero_le _)
  · show G _ _ _ _ _ _ _ _ _ _ _
    refine g_iload_n (i := 2) (pc := 4) dL_free_4 rfl rfl ?_
    refine g_bipush (pc := 5) dL_free_5 (by decide) ?_
    refine g_c_ge (tgt := 32) (pc := 7) dL_free_7 (by omega) (by decide) (fun c7 => ?_) (fun c7 => absurd c7 (by omega))
    refine g_iload_n (i := 1) (pc := 32) dL_free_32 rfl rfl ?_
    refine g_iret (pc := 33) rfl dL_free_33 (fun h => h) ?_
    exact dt_i rfl rfl
  · intro k hk ih
    show G _ _ _ _ _ _ _ _ _ _ _
    refine g_iload_n (i := 2) (pc := 4) dL_free_4 rfl rfl ?_
    refine g_bipush (pc := 5) dL_free_5 (by decide) ?_
    refine g_c_ge (tgt := 32) (pc := 7) dL_free_7 (by omega) (by decide) (fun c7 => absurd c7 (by omega)) (fun c7 => ?_)
    refine g_iload_n (i := 1) (pc := 10) dL_free_10 rfl rfl ?_
    refine g_aload_n (i := 0) (pc := 11) dL_free_11 rfl rfl ?_
    refine g_iload_n (i := 2) (pc := 12) dL_free_12 rfl rfl ?_
    refine g_lald (pc := 13) dL_free_13 (hu) (by omega) ?_
    have u9 := um_rng (s_fr σ) (k : Int).toNat
    have u8 := um_0x (fr := s_fr σ) (x := (k : Int)) (by omega)
    refine g_lconst (z := 0) (pc := 14) dL_free_14 rfl ?_
    refine g_lcmp (pc := 15) dL_free_15 (by omega) (by omega) ?_
    have y9 := b_cmp_0 (um (s_fr σ) (k : Int).toNat) 0
    have r9 := b_cmp_rng (um (s_fr σ) (k : Int).toNat) 0
    refine g_z_ne (tgt := 23) (pc := 16) dL_free_16 (by omega) (by decide) (fun c16 => ?_) (fun c16 => ?_)
    · skip
      refine g_iconst (pc := 23) dL_free_23 ?_
      refine g_iadd (pc := 24) dL_free_24 ?_
      refine g_istore_n (i := 1) (pc := 25) dL_free_25 rfl (by decide) rfl ?_
      simp only [List.set_cons_succ, List.set_cons_zero]
      refine g_iinc (pc := 26) dL_free_26 rfl (by decide) rfl ?_
      simp only [List.set_cons_succ, List.set_cons_zero]
      refine g_goto (tgt := 4) (pc := 29) dL_free_29 (by decide) ?_
      refine G.eqL (congrArg (fun z => [some (vR b), some (vI z), some (vI ((k : Int) + 1))]) ?_) ih
      exact (Int.add_zero _).trans (ct_no (by simp only [decide_eq_true_eq]; omega)).symm
    · skip
      refine g_iconst (pc := 19) dL_free_19 ?_
      refine g_goto (tgt := 24) (pc := 20) dL_free_20 (by decide) ?_
      refine g_iadd (pc := 24) dL_free_24 ?_
      refine g_istore_n (i := 1) (pc := 25) dL_free_25 rfl (by decide) rfl ?_
      simp only [List.set_cons_succ, List.set_cons_zero]
      refine g_iinc (pc := 26) dL_free_26 rfl (by decide) rfl ?_
      simp only [List.set_cons_succ, List.set_cons_zero]
      refine g_goto (tgt := 4) (pc := 29) dL_free_29 (by decide) ?_
      refine G.eqL (congrArg (fun z => [some (vR b), some (vI z), some (vI ((k : Int) + 1))]) ?_) ih
      exact (ct_yes (by simp only [decide_eq_true_eq]; omega)).symm
set_option maxRecDepth 20000 in
set_option maxHeartbeats 400000 in
theorem t_L_empty {w : List MC} {b : Nat} {σ : SG} {al : Bool} (hu : w[b]? = some (cArr 3 32 (um (s_fr σ)))) (hi : Inv σ) {gg p g : Int} (hG : gg = 4 * p + g) (h_p : 0 ≤ p ∧ p < 4) (h_g : 0 ≤ g ∧ g < 4) : GM M_L_empty al [vI gg, vR b] (w) 0 0 (dt (some (vI (b2 (decide (pf σ p g = 0))))) (w)) := by
  show G _ none _ _ 0 [some (vI gg), some (vR b), none, none] [] _ _ _ _
  refine g_iconst (pc := 0) dL_empty_0 ?_
  refine g_istore_n (i := 2) (pc := 1) dL_empty_1 rfl (by decide) rfl ?_
  simp only [List.set_cons_succ, List.set_cons_zero]
  refine g_iconst (pc := 2) dL_empty_2 ?_
  refine g_iload_n (i := 0) (pc := 3) dL_empty_3 rfl rfl ?_
  refine g_imul (pc := 4) dL_empty_4 ?_
  refine g_istore_n (i := 3) (pc := 5) dL_empty_5 rfl (by decide) rfl ?_
  simp only [List.set_cons_succ, List.set_cons_zero]
  refine G.eqL2 (F := fun x y => [some (vI gg), some (vR b), some (vI x), some (vI y)]) (x' := b2 (decide (ct (fun i : Nat => decide (fo σ p (4 * g + i) ≠ -1)) 0 = 0))) (y' := 4 * gg + ((0 : Nat) : Int)) rfl (by omega) ?_
  refine lp_up (P := fun k => G M_L_empty none al al 6 [some (vI gg), some (vR b), some (vI (b2 (decide (ct (fun i : Nat => decide (fo σ p (4 * g + i) ≠ -1)) k = 0)))), some (vI (4 * gg + (k : Int)))] [] w 0 0 (dt (some (vI (b2 (decide (pf σ p g = 0))))) (w))) 4 ?_ ?_ 0 (Nat.zero_le _)
  · show G _ _ _ _ _ _ _ _ _ _ _
    have bx := b2_rng (decide (ct (fun i : Nat => decide (fo σ p (4 * g + i) ≠ -1)) 4 = 0))
    refine g_iload_n (i := 3) (pc := 6) dL_empty_6 rfl rfl ?_
    refine g_iconst (pc := 7) dL_empty_7 ?_
    refine g_iload_n (i := 0) (pc := 8) dL_empty_8 rfl rfl ?_
    refine g_imul (pc := 9) dL_empty_9 ?_
    refine g_iconst (pc := 10) dL_empty_10 ?_
    refine g_iadd (pc := 11) dL_empty_11 ?_
    refine g_c_ge (tgt := 39) (pc := 12) dL_empty_12 (by omega) (by decide) (fun c12 => ?_) (fun c12 => absurd c12 (by omega))
    refine g_iload_n (i := 2) (pc := 39) dL_empty_39 rfl rfl ?_
    refine g_zret (pc := 40) rfl dL_empty_40 (by omega) (fun h => h) ?_
    exact dt_i rfl rfl
  · intro k hk ih
    show G _ _ _ _ _ _ _ _ _ _ _
    have bx := b2_rng (decide (ct (fun i : Nat => decide (fo σ p (4 * g + i) ≠ -1)) k = 0))
    refine g_iload_n (i := 3) (pc := 6) dL_empty_6 rfl rfl ?_
    refine g_iconst (pc := 7) dL_empty_7 ?_
    refine g_iload_n (i := 0) (pc := 8) dL_empty_8 rfl rfl ?_
    refine g_imul (pc := 9) dL_empty_9 ?_
    refine g_iconst (pc := 10) dL_empty_10 ?_
    refine g_iadd (pc := 11) dL_empty_11 ?_
    refine g_c_ge (tgt := 39) (pc := 12) dL_empty_12 (by omega) (by decide) (fun c12 => absurd c12 (by omega)) (fun c12 => ?_)
    refine g_iload_n (i := 2) (pc := 15) dL_empty_15 rfl rfl ?_
    refine g_z_eq (tgt := 31) (pc := 16) dL_empty_16 (by omega) (by decide) (fun c16 => ?_) (fun c16 => ?_)
    · skip
      refine g_iconst (pc := 31) dL_empty_31 ?_
      refine g_istore_n (i := 2) (pc := 32) dL_empty_32 rfl (by decide) rfl ?_
      simp only [List.set_cons_succ, List.set_cons_zero]
      refine g_iinc (pc := 33) dL_empty_33 rfl (by decide) rfl ?_
      simp only [List.set_cons_succ, List.set_cons_zero]
      refine g_goto (tgt := 6) (pc := 36) dL_empty_36 (by decide) ?_
      refine G.eqL2 (F := fun x y => [some (vI gg), some (vR b), some (vI x), some (vI y)]) (x' := b2 (decide (ct (fun i : Nat => decide (fo σ p (4 * g + i) ≠ -1)) (k + 1) = 0))) (y' := 4 * gg + ((k + 1 : Nat) : Int)) ?_ (by omega) ih
      refine (b2_f ?_).symm
      rw [decide_eq_true_eq]
      have n9 := ct_rng (fun i : Nat => decide (fo σ p (4 * g + i) ≠ -1)) k
      have n8 : ¬ ct (fun i : Nat => decide (fo σ p (4 * g + i) ≠ -1)) k = 0 := fun z => by have := b2_t (b := decide (ct (fun i : Nat => decide (fo σ p (4 * g + i) ≠ -1)) k = 0)) (decide_eq_true z); omega
      rw [ct]
      split <;> omega
    · skip
      refine g_iload_n (i := 3) (pc := 19) dL_empty_19 rfl rfl ?_
      refine g_aload_n (i := 1) (pc := 20) dL_empty_20 rfl rfl ?_
      refine g_sIR (pc := 21) okS_L_frame rfl l_L_46 dL_empty_21 (by decide) (by decide) (Nat.le_of_ble_eq_true rfl) (t_L_frame (σ := σ) hu hi (by omega)) rfl ?_
      simp only [Option.toList, List.cons_append, List.nil_append]
      have bb := hi.1 ((4 * gg + (k : Int))).toNat
      refine G.eqS (congrArg (fun z => vI z) (fo_k (σ := σ) (p := p) (v := 4 * g + (k : Int)) (by omega) h_p (by omega))) ?_
      have bf := fo_rng hi p (4 * g + (k : Int))
      refine g_z_ge (tgt := 31) (pc := 24) dL_empty_24 (by omega) (by decide) (fun c24 => ?_) (fun c24 => ?_)
      · skip
        refine g_iconst (pc := 31) dL_empty_31 ?_
        refine g_istore_n (i := 2) (pc := 32) dL_empty_32 rfl (by decide) rfl ?_
        simp only [List.set_cons_succ, List.set_cons_zero]
        refine g_iinc (pc := 33) dL_empty_33 rfl (by decide) rfl ?_
        simp only [List.set_cons_succ, List.set_cons_zero]
        refine g_goto (tgt := 6) (pc := 36) dL_empty_36 (by decide) ?_
        refine G.eqL2 (F := fun x y => [some (vI gg), some (vR b), some (vI x), some (vI y)]) (x' := b2 (decide (ct (fun i : Nat => decide (fo σ p (4 * g + i) ≠ -1)) (k + 1) = 0))) (y' := 4 * gg + ((k + 1 : Nat) : Int)) ?_ (by omega) ih
        refine (b2_f ?_).symm
        rw [decide_eq_true_eq]
        have n9 := ct_rng (fun i : Nat => decide (fo σ p (4 * g + i) ≠ -1)) k
        rw [ct_yes (by simp only [decide_eq_true_eq]; omega)]
        omega
      · skip
        refine g_iconst (pc := 27) dL_empty_27 ?_
        refine g_goto (tgt := 32) (pc := 28) dL_empty_28 (by decide) ?_
        refine g_istore_n (i := 2) (pc := 32) dL_empty_32 rfl (by decide) rfl ?_
        simp only [List.set_cons_succ, List.set_cons_zero]
        refine g_iinc (pc := 33) dL_empty_33 rfl (by decide) rfl ?_
        simp only [List.set_cons_succ, List.set_cons_zero]
        refine g_goto (tgt := 6) (pc := 36) dL_empty_36 (by decide) ?_
        refine G.eqL2 (F := fun x y => [some (vI gg), some (vR b), some (vI x), some (vI y)]) (x' := b2 (decide (ct (fun i : Nat => decide (fo σ p (4 * g + i) ≠ -1)) (k + 1) = 0))) (y' := 4 * gg + ((k + 1 : Nat) : Int)) ?_ (by omega) ih
        refine (b2_t (decide_eq_true ?_)).symm
        rw [ct_no (by simp only [decide_eq_true_eq]; omega)]
        exact of_decide_eq_true (b2_1.mp (by omega))
set_option maxRecDepth 20000 in
set_option maxHeartbeats 400000 in
theorem t_L_would {w : List MC} {a b : Nat} {σ : SG} {al : Bool} (hq : w[a]? = some (cArr 0 7 (qf σ))) (hu : w[b]? = some (cArr 3 32 (um (s_fr σ)))) (hi : Inv σ) {k p v : Int} (hk : k = 16 * p + v) (h_p : 0 ≤ p ∧ p < 4) (h_v : 0 ≤ v ∧ v < 16) (hpg : hasPg σ p v = true) : GM M_L_would al [vI k, vR a, vR b] (w) 0 0 (dt (some (vI (oc σ p v))) (w)) := by
  show G _ none _ _ 0 [some (vI k), some (vR a), some (vR b), none, none] [] _ _ _ _
  have d9 := Int.tdiv_eq_ediv_of_nonneg (a := v) (b := 4) (by omega)
  have d8 := Int.tdiv_eq_ediv_of_nonneg (a := k) (b := 4) (by omega)
  have he := hi.2.2.2.2.2.2.2.2.1
  refine g_iload_n (i := 0) (pc := 0) dL_would_0 rfl rfl ?_
  refine g_aload_n (i := 2) (pc := 1) dL_would_1 rfl rfl ?_
  refine g_sIR (pc := 2) okS_L_frame rfl l_L_46 dL_would_2 (by decide) (by decide) (Nat.le_of_ble_eq_true rfl) (t_L_frame (σ := σ) hu hi (by omega)) rfl ?_
  simp only [Option.toList, List.cons_append, List.nil_append]
  have bb := hi.1 (k).toNat
  refine G.eqS (congrArg (fun z => vI z) (fo_k (σ := σ) hk h_p h_v)) ?_
  have bf := fo_rng hi p v
  refine g_istore_n (i := 3) (pc := 5) dL_would_5 rfl (by decide) rfl ?_
  simp only [List.set_cons_succ, List.set_cons_zero]
  refine g_iload_n (i := 3) (pc := 6) dL_would_6 rfl rfl ?_
  refine g_z_lt (tgt := 21) (pc := 7) dL_would_7 (by omega) (by decide) (fun c7 => ?_) (fun c7 => ?_)
  · skip
    refine g_iload_n (i := 3) (pc := 21) dL_would_21 rfl rfl ?_
    refine g_z_ge (tgt := 54) (pc := 22) dL_would_22 (by omega) (by decide) (fun c22 => absurd c22 (by omega)) (fun c22 => ?_)
    refine g_aload_n (i := 1) (pc := 25) dL_would_25 rfl rfl ?_
    refine g_bipush (pc := 26) dL_would_26 (by decide) ?_
    refine g_iald (pc := 28) dL_would_28 (hq) (by omega) ?_
    refine G.eqS (v' := vI (s_ea σ)) rfl ?_
    refine g_iconst (pc := 29) dL_would_29 ?_
    refine g_c_ne (tgt := 54) (pc := 30) dL_would_30 (by omega) (by decide) (fun c30 => ?_) (fun c30 => ?_)
    · skip
      refine g_iconst (pc := 54) dL_would_54 ?_
      refine g_istore (pc := 55) dL_would_55 (by decide) rfl ?_
      simp only [List.set_cons_succ, List.set_cons_zero]
      refine g_iload (pc := 57) dL_would_57 rfl ?_
      refine g_z_ne (tgt := 71) (pc := 59) dL_would_59 (by omega) (by decide) (fun c59 => absurd c59 (by omega)) (fun c59 => ?_)
      refine g_aload_n (i := 2) (pc := 62) dL_would_62 rfl rfl ?_
      refine g_sR (pc := 63) okS_L_single rfl l_L_57 dL_would_63 (by decide) (by decide) (Nat.le_of_ble_eq_true rfl) (t_L_single (σ := σ) hu hi) rfl ?_
      simp only [Option.toList, List.cons_append, List.nil_append]
      have bb := lsf_rng σ
      refine g_z_ge (tgt := 71) (pc := 66) dL_would_66 (by omega) (by decide) (fun c66 => ?_) (fun c66 => ?_)
      · skip
        refine g_iload_n (i := 3) (pc := 71) dL_would_71 rfl rfl ?_
        refine g_z_ge (tgt := 79) (pc := 72) dL_would_72 (by omega) (by decide) (fun c72 => absurd c72 (by omega)) (fun c72 => ?_)
        refine g_iconst (pc := 75) dL_would_75 ?_
        refine g_goto (tgt := 97) (pc := 76) dL_would_76 (by decide) ?_
        refine g_iret (pc := 97) rfl dL_would_97 (fun h => h) ?_
        have h1 : ¬ (fo σ p v ≠ -1 ∧ ¬ sh σ (fo σ p v) = true) := by
          rintro ⟨q1, q2⟩
          have q3 := (sh_one h_p h_v q1)
          have q4 : uses (s_fr σ) (fo σ p v) = 1 := by
            rcases (by omega : uses (s_fr σ) (fo σ p v) = 1 ∨ ¬ uses (s_fr σ) (fo σ p v) = 1) with z | z
            · exact z
            · exact absurd (q3.mpr z) q2
          have q5 := b2_t (b := decide (uses (s_fr σ) (fo σ p v) = 1)) (decide_eq_true q4)
          omega
        have hl := lsf_nff σ
        have hl2 := @lfr_nff σ
        have hn : ¬ nff σ = 0 := by
          first
          | exact hl2 (by omega)
          | exact fun z => absurd (hl.mpr z) (by omega)
        refine dt_i ?_ rfl
        unfold oc
        rw [if_pos hpg, if_neg h1, if_neg hn]
        first
        | (rw [if_pos (by omega)]; done)
        | (rw [if_neg (by omega), if_pos (b2_1.mp (by omega))]; done)
        | (rw [if_neg (by omega), if_neg (b2_0.mp (by omega))]; done)
      · skip
        refine g_iconst (pc := 69) dL_would_69 ?_
        refine g_iret (pc := 70) rfl dL_would_70 (fun h => h) ?_
        have h1 : ¬ (fo σ p v ≠ -1 ∧ ¬ sh σ (fo σ p v) = true) := by
          rintro ⟨q1, q2⟩
          have q3 := (sh_one h_p h_v q1)
          have q4 : uses (s_fr σ) (fo σ p v) = 1 := by
            rcases (by omega : uses (s_fr σ) (fo σ p v) = 1 ∨ ¬ uses (s_fr σ) (fo σ p v) = 1) with z | z
            · exact z
            · exact absurd (q3.mpr z) q2
          have q5 := b2_t (b := decide (uses (s_fr σ) (fo σ p v) = 1)) (decide_eq_true q4)
          omega
        have hl := lsf_nff σ
        have hl2 := @lfr_nff σ
        refine dt_i ?_ rfl
        unfold oc
        rw [if_pos hpg, if_neg h1, if_pos (hl.mp (by omega))]
    · skip
      refine g_iload_n (i := 0) (pc := 33) dL_would_33 rfl rfl ?_
      refine g_iconst (pc := 34) dL_would_34 ?_
      refine g_idiv (pc := 35) dL_would_35 (by omega) (by omega) ?_
      refine g_aload_n (i := 2) (pc := 36) dL_would_36 rfl rfl ?_
      refine g_sIR (pc := 37) okS_L_empty rfl l_L_54 dL_would_37 (by decide) (by decide) (Nat.le_of_ble_eq_true rfl) (t_L_empty (σ := σ) (p := p) (g := v.tdiv 4) hu hi (by omega) h_p (by omega)) rfl ?_
      simp only [Option.toList, List.cons_append, List.nil_append]
      have bb := b2_rng (decide (pf σ p (v.tdiv 4) = 0))
      refine g_z_eq (tgt := 54) (pc := 40) dL_would_40 (by omega) (by decide) (fun c40 => ?_) (fun c40 => ?_)
      · skip
        refine g_iconst (pc := 54) dL_would_54 ?_
        refine g_istore (pc := 55) dL_would_55 (by decide) rfl ?_
        simp only [List.set_cons_succ, List.set_cons_zero]
        refine g_iload (pc := 57) dL_would_57 rfl ?_
        refine g_z_ne (tgt := 71) (pc := 59) dL_would_59 (by omega) (by decide) (fun c59 => absurd c59 (by omega)) (fun c59 => ?_)
        refine g_aload_n (i := 2) (pc := 62) dL_would_62 rfl rfl ?_
        refine g_sR (pc := 63) okS_L_single rfl l_L_57 dL_would_63 (by decide) (by decide) (Nat.le_of_ble_eq_true rfl) (t_L_single (σ := σ) hu hi) rfl ?_
        simp only [Option.toList, List.cons_append, List.nil_append]
        have bb := lsf_rng σ
        refine g_z_ge (tgt := 71) (pc := 66) dL_would_66 (by omega) (by decide) (fun c66 => ?_) (fun c66 => ?_)
        · skip
          refine g_iload_n (i := 3) (pc := 71) dL_would_71 rfl rfl ?_
          refine g_z_ge (tgt := 79) (pc := 72) dL_would_72 (by omega) (by decide) (fun c72 => absurd c72 (by omega)) (fun c72 => ?_)
          refine g_iconst (pc := 75) dL_would_75 ?_
          refine g_goto (tgt := 97) (pc := 76) dL_would_76 (by decide) ?_
          refine g_iret (pc := 97) rfl dL_would_97 (fun h => h) ?_
          have h1 : ¬ (fo σ p v ≠ -1 ∧ ¬ sh σ (fo σ p v) = true) := by
            rintro ⟨q1, q2⟩
            have q3 := (sh_one h_p h_v q1)
            have q4 : uses (s_fr σ) (fo σ p v) = 1 := by
              rcases (by omega : uses (s_fr σ) (fo σ p v) = 1 ∨ ¬ uses (s_fr σ) (fo σ p v) = 1) with z | z
              · exact z
              · exact absurd (q3.mpr z) q2
            have q5 := b2_t (b := decide (uses (s_fr σ) (fo σ p v) = 1)) (decide_eq_true q4)
            omega
          have hl := lsf_nff σ
          have hl2 := @lfr_nff σ
          have hn : ¬ nff σ = 0 := by
            first
            | exact hl2 (by omega)
            | exact fun z => absurd (hl.mpr z) (by omega)
          refine dt_i ?_ rfl
          unfold oc
          rw [if_pos hpg, if_neg h1, if_neg hn]
          first
          | (rw [if_pos (by omega)]; done)
          | (rw [if_neg (by omega), if_pos (b2_1.mp (by omega))]; done)
          | (rw [if_neg (by omega), if_neg (b2_0.mp (by omega))]; done)
        · skip
          refine g_iconst (pc := 69) dL_would_69 ?_
          refine g_iret (pc := 70) rfl dL_would_70 (fun h => h) ?_
          have h1 : ¬ (fo σ p v ≠ -1 ∧ ¬ sh σ (fo σ p v) = true) := by
            rintro ⟨q1, q2⟩
            have q3 := (sh_one h_p h_v q1)
            have q4 : uses (s_fr σ) (fo σ p v) = 1 := by
              rcases (by omega : uses (s_fr σ) (fo σ p v) = 1 ∨ ¬ uses (s_fr σ) (fo σ p v) = 1) with z | z
              · exact z
              · exact absurd (q3.mpr z) q2
            have q5 := b2_t (b := decide (uses (s_fr σ) (fo σ p v) = 1)) (decide_eq_true q4)
            omega
          have hl := lsf_nff σ
          have hl2 := @lfr_nff σ
          refine dt_i ?_ rfl
          unfold oc
          rw [if_pos hpg, if_neg h1, if_pos (hl.mp (by omega))]
      · skip
        refine g_aload_n (i := 2) (pc := 43) dL_would_43 rfl rfl ?_
        refine g_sR (pc := 44) okS_L_run rfl l_L_42 dL_would_44 (by decide) (by decide) (Nat.le_of_ble_eq_true rfl) (t_L_run (σ := σ) hu hi) rfl ?_
        simp only [Option.toList, List.cons_append, List.nil_append]
        have bb := lfr_rng σ
        refine g_z_lt (tgt := 54) (pc := 47) dL_would_47 (by omega) (by decide) (fun c47 => ?_) (fun c47 => ?_)
        · skip
          refine g_iconst (pc := 54) dL_would_54 ?_
          refine g_istore (pc := 55) dL_would_55 (by decide) rfl ?_
          simp only [List.set_cons_succ, List.set_cons_zero]
          refine g_iload (pc := 57) dL_would_57 rfl ?_
          refine g_z_ne (tgt := 71) (pc := 59) dL_would_59 (by omega) (by decide) (fun c59 => absurd c59 (by omega)) (fun c59 => ?_)
          refine g_aload_n (i := 2) (pc := 62) dL_would_62 rfl rfl ?_
          refine g_sR (pc := 63) okS_L_single rfl l_L_57 dL_would_63 (by decide) (by decide) (Nat.le_of_ble_eq_true rfl) (t_L_single (σ := σ) hu hi) rfl ?_
          simp only [Option.toList, List.cons_append, List.nil_append]
          have bb := lsf_rng σ
          refine g_z_ge (tgt := 71) (pc := 66) dL_would_66 (by omega) (by decide) (fun c66 => ?_) (fun c66 => ?_)
          · skip
            refine g_iload_n (i := 3) (pc := 71) dL_would_71 rfl rfl ?_
            refine g_z_ge (tgt := 79) (pc := 72) dL_would_72 (by omega) (by decide) (fun c72 => absurd c72 (by omega)) (fun c72 => ?_)
            refine g_iconst (pc := 75) dL_would_75 ?_
            refine g_goto (tgt := 97) (pc := 76) dL_would_76 (by decide) ?_
            refine g_iret (pc := 97) rfl dL_would_97 (fun h => h) ?_
            have h1 : ¬ (fo σ p v ≠ -1 ∧ ¬ sh σ (fo σ p v) = true) := by
              rintro ⟨q1, q2⟩
              have q3 := (sh_one h_p h_v q1)
              have q4 : uses (s_fr σ) (fo σ p v) = 1 := by
                rcases (by omega : uses (s_fr σ) (fo σ p v) = 1 ∨ ¬ uses (s_fr σ) (fo σ p v) = 1) with z | z
                · exact z
                · exact absurd (q3.mpr z) q2
              have q5 := b2_t (b := decide (uses (s_fr σ) (fo σ p v) = 1)) (decide_eq_true q4)
              omega
            have hl := lsf_nff σ
            have hl2 := @lfr_nff σ
            have hn : ¬ nff σ = 0 := by
              first
              | exact hl2 (by omega)
              | exact fun z => absurd (hl.mpr z) (by omega)
            refine dt_i ?_ rfl
            unfold oc
            rw [if_pos hpg, if_neg h1, if_neg hn]
            first
            | (rw [if_pos (by omega)]; done)
            | (rw [if_neg (by omega), if_pos (b2_1.mp (by omega))]; done)
            | (rw [if_neg (by omega), if_neg (b2_0.mp (by omega))]; done)
          · skip
            refine g_iconst (pc := 69) dL_would_69 ?_
            refine g_iret (pc := 70) rfl dL_would_70 (fun h => h) ?_
            have h1 : ¬ (fo σ p v ≠ -1 ∧ ¬ sh σ (fo σ p v) = true) := by
              rintro ⟨q1, q2⟩
              have q3 := (sh_one h_p h_v q1)
              have q4 : uses (s_fr σ) (fo σ p v) = 1 := by
                rcases (by omega : uses (s_fr σ) (fo σ p v) = 1 ∨ ¬ uses (s_fr σ) (fo σ p v) = 1) with z | z
                · exact z
                · exact absurd (q3.mpr z) q2
              have q5 := b2_t (b := decide (uses (s_fr σ) (fo σ p v) = 1)) (decide_eq_true q4)
              omega
            have hl := lsf_nff σ
            have hl2 := @lfr_nff σ
            refine dt_i ?_ rfl
            unfold oc
            rw [if_pos hpg, if_neg h1, if_pos (hl.mp (by omega))]
        · skip
          refine g_iconst (pc := 50) dL_would_50 ?_
          refine g_goto (tgt := 55) (pc := 51) dL_would_51 (by decide) ?_
          refine g_istore (pc := 55) dL_would_55 (by decide) rfl ?_
          simp only [List.set_cons_succ, List.set_cons_zero]
          refine g_iload (pc := 57) dL_would_57 rfl ?_
          refine g_z_ne (tgt := 71) (pc := 59) dL_would_59 (by omega) (by decide) (fun c59 => ?_) (fun c59 => absurd c59 (by omega))
          refine g_iload_n (i := 3) (pc := 71) dL_would_71 rfl rfl ?_
          refine g_z_ge (tgt := 79) (pc := 72) dL_would_72 (by omega) (by decide) (fun c72 => absurd c72 (by omega)) (fun c72 => ?_)
          refine g_iconst (pc := 75) dL_would_75 ?_
          refine g_goto (tgt := 97) (pc := 76) dL_would_76 (by decide) ?_
          refine g_iret (pc := 97) rfl dL_would_97 (fun h => h) ?_
          have h1 : ¬ (fo σ p v ≠ -1 ∧ ¬ sh σ (fo σ p v) = true) := by
            rintro ⟨q1, q2⟩
            have q3 := (sh_one h_p h_v q1)
            have q4 : uses (s_fr σ) (fo σ p v) = 1 := by
              rcases (by omega : uses (s_fr σ) (fo σ p v) = 1 ∨ ¬ uses (s_fr σ) (fo σ p v) = 1) with z | z
              · exact z
              · exact absurd (q3.mpr z) q2
            have q5 := b2_t (b := decide (uses (s_fr σ) (fo σ p v) = 1)) (decide_eq_true q4)
            omega
          have hl := lsf_nff σ
          have hl2 := @lfr_nff σ
          have hn : ¬ nff σ = 0 := by
            first
            | exact hl2 (by omega)
            | exact fun z => absurd (hl.mpr z) (by omega)
          refine dt_i ?_ rfl
          unfold oc
          rw [if_pos hpg, if_neg h1, if_neg hn]
          first
          | (rw [if_pos (by omega)]; done)
          | (rw [if_neg (by omega), if_pos (b2_1.mp (by omega))]; done)
          | (rw [if_neg (by omega), if_neg (b2_0.mp (by omega))]; done)
  · skip
    refine g_aload_n (i := 2) (pc := 10) dL_would_10 rfl rfl ?_
    refine g_iload_n (i := 3) (pc := 11) dL_would_11 rfl rfl ?_
    refine g_lald (pc := 12) dL_would_12 (hu) (by omega) ?_
    refine g_sJ (pc := 13) okS_L_one rfl l_L_50 dL_would_13 (by decide) (by decide) (Nat.le_of_ble_eq_true rfl) (t_L_onex (fr := s_fr σ) (x := fo σ p v) (by omega)) rfl ?_
    simp only [Option.toList, List.cons_append, List.nil_append]
    have bb := b2_rng (decide (uses (s_fr σ) (fo σ p v) = 1))
    refine g_z_eq (tgt := 21) (pc := 16) dL_would_16 (by omega) (by decide) (fun c16 => ?_) (fun c16 => ?_)
    · skip
      refine g_iload_n (i := 3) (pc := 21) dL_would_21 rfl rfl ?_
      refine g_z_ge (tgt := 54) (pc := 22) dL_would_22 (by omega) (by decide) (fun c22 => ?_) (fun c22 => absurd c22 (by omega))
      refine g_iconst (pc := 54) dL_would_54 ?_
      refine g_istore (pc := 55) dL_would_55 (by decide) rfl ?_
      simp only [List.set_cons_succ, List.set_cons_zero]
      refine g_iload (pc := 57) dL_would_57 rfl ?_
      refine g_z_ne (tgt := 71) (pc := 59) dL_would_59 (by omega) (by decide) (fun c59 => absurd c59 (by omega)) (fun c59 => ?_)
      refine g_aload_n (i := 2) (pc := 62) dL_would_62 rfl rfl ?_
      refine g_sR (pc := 63) okS_L_single rfl l_L_57 dL_would_63 (by decide) (by decide) (Nat.le_of_ble_eq_true rfl) (t_L_single (σ := σ) hu hi) rfl ?_
      simp only [Option.toList, List.cons_append, List.nil_append]
      have bb := lsf_rng σ
      refine g_z_ge (tgt := 71) (pc := 66) dL_would_66 (by omega) (by decide) (fun c66 => ?_) (fun c66 => ?_)
      · skip
        refine g_iload_n (i := 3) (pc := 71) dL_would_71 rfl rfl ?_
        refine g_z_ge (tgt := 79) (pc := 72) dL_would_72 (by omega) (by decide) (fun c72 => ?_) (fun c72 => absurd c72 (by omega))
        refine g_aload_n (i := 1) (pc := 79) dL_would_79 rfl rfl ?_
        refine g_iconst (pc := 80) dL_would_80 ?_
        refine g_iald (pc := 81) dL_would_81 (hq) (by omega) ?_
        refine G.eqS (v' := vI (bsum (s_bg σ) 16)) rfl ?_
        refine g_iload_n (i := 0) (pc := 82) dL_would_82 rfl rfl ?_
        refine g_iconst (pc := 83) dL_would_83 ?_
        refine g_idiv (pc := 84) dL_would_84 (by omega) (by omega) ?_
        refine g_ishr (pc := 85) dL_would_85 ?_
        refine g_iconst (pc := 86) dL_would_86 ?_
        refine g_iand (pc := 87) dL_would_87 ?_
        refine G.eqS (congrArg (fun z => vI z) (bit_bg hi (p := p) (g := v.tdiv 4) (by omega) h_p (by omega))) ?_
        have b8 := b2_rng (big σ p (v.tdiv 4))
        refine g_iconst (pc := 88) dL_would_88 ?_
        refine g_c_ne (tgt := 96) (pc := 89) dL_would_89 (by omega) (by decide) (fun c89 => ?_) (fun c89 => ?_)
        · skip
          refine g_iconst (pc := 96) dL_would_96 ?_
          refine g_iret (pc := 97) rfl dL_would_97 (fun h => h) ?_
          have h1 : ¬ (fo σ p v ≠ -1 ∧ ¬ sh σ (fo σ p v) = true) := by
            rintro ⟨q1, q2⟩
            have q3 := (sh_one h_p h_v q1)
            have q4 : uses (s_fr σ) (fo σ p v) = 1 := by
              rcases (by omega : uses (s_fr σ) (fo σ p v) = 1 ∨ ¬ uses (s_fr σ) (fo σ p v) = 1) with z | z
              · exact z
              · exact absurd (q3.mpr z) q2
            have q5 := b2_t (b := decide (uses (s_fr σ) (fo σ p v) = 1)) (decide_eq_true q4)
            omega
          have hl := lsf_nff σ
          have hl2 := @lfr_nff σ
          have hn : ¬ nff σ = 0 := by
            first
            | exact hl2 (by omega)
            | exact fun z => absurd (hl.mpr z) (by omega)
          refine dt_i ?_ rfl
          unfold oc
          rw [if_pos hpg, if_neg h1, if_neg hn]
          first
          | (rw [if_pos (by omega)]; done)
          | (rw [if_neg (by omega), if_pos (b2_1.mp (by omega))]; done)
          | (rw [if_neg (by omega), if_neg (b2_0.mp (by omega))]; done)
        · skip
          refine g_iconst (pc := 92) dL_would_92 ?_
          refine g_goto (tgt := 97) (pc := 93) dL_would_93 (by decide) ?_
          refine g_iret (pc := 97) rfl dL_would_97 (fun h => h) ?_
          have h1 : ¬ (fo σ p v ≠ -1 ∧ ¬ sh σ (fo σ p v) = true) := by
            rintro ⟨q1, q2⟩
            have q3 := (sh_one h_p h_v q1)
            have q4 : uses (s_fr σ) (fo σ p v) = 1 := by
              rcases (by omega : uses (s_fr σ) (fo σ p v) = 1 ∨ ¬ uses (s_fr σ) (fo σ p v) = 1) with z | z
              · exact z
              · exact absurd (q3.mpr z) q2
            have q5 := b2_t (b := decide (uses (s_fr σ) (fo σ p v) = 1)) (decide_eq_true q4)
            omega
          have hl := lsf_nff σ
          have hl2 := @lfr_nff σ
          have hn : ¬ nff σ = 0 := by
            first
            | exact hl2 (by omega)
            | exact fun z => absurd (hl.mpr z) (by omega)
          refine dt_i ?_ rfl
          unfold oc
          rw [if_pos hpg, if_neg h1, if_neg hn]
          first
          | (rw [if_pos (by omega)]; done)
          | (rw [if_neg (by omega), if_pos (b2_1.mp (by omega))]; done)
          | (rw [if_neg (by omega), if_neg (b2_0.mp (by omega))]; done)
      · skip
        refine g_iconst (pc := 69) dL_would_69 ?_
        refine g_iret (pc := 70) rfl dL_would_70 (fun h => h) ?_
        have h1 : ¬ (fo σ p v ≠ -1 ∧ ¬ sh σ (fo σ p v) = true) := by
          rintro ⟨q1, q2⟩
          have q3 := (sh_one h_p h_v q1)
          have q4 : uses (s_fr σ) (fo σ p v) = 1 := by
            rcases (by omega : uses (s_fr σ) (fo σ p v) = 1 ∨ ¬ uses (s_fr σ) (fo σ p v) = 1) with z | z
            · exact z
            · exact absurd (q3.mpr z) q2
          have q5 := b2_t (b := decide (uses (s_fr σ) (fo σ p v) = 1)) (decide_eq_true q4)
          omega
        have hl := lsf_nff σ
        have hl2 := @lfr_nff σ
        refine dt_i ?_ rfl
        unfold oc
        rw [if_pos hpg, if_neg h1, if_pos (hl.mp (by omega))]
    · skip
      refine g_iconst (pc := 19) dL_would_19 ?_
      refine g_iret (pc := 20) rfl dL_would_20 (fun h => h) ?_
      have h8 : fo σ p v ≠ -1 := by omega
      refine dt_i ?_ rfl
      unfold oc
      rw [if_pos hpg, if_pos ⟨h8, fun z => (sh_one h_p h_v h8).mp z (of_decide_eq_true (b2_1.mp (by omega)))⟩]
end LQ9
