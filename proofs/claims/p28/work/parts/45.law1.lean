/-! THE LAW'S TURN (printed by wip/p28/law.py, but for the first rows) -/
section LA9
def LQ : (Option MV) ⊕ String → List MC → Prop := fun r _ => r = .inl (some (vI 1))
section
variable {M Mj : MT} {scr : Option (Nat × (Nat → Int))} {al alE : Bool} {pc : Nat} {L L' : List (Option MV)} {S : List MV} {w w1 : List MC} {bc bs : Nat} {Q : (Option MV) ⊕ String → List MC → Prop} {idx : Nat} {r0 : Option MV}
theorem G.joinL {T : Nat} (J : G M scr al alE T L' S w bc bs Q) (k : G M scr al alE T L' S w bc bs Q → G M scr al alE pc L S w bc bs Q) : G M scr al alE pc L S w bc bs Q := k J
theorem G.joinA1 {T : Nat} {lo hi x : Int} (J : ∀ v : Int, lo ≤ v ∧ v < hi → G M scr al alE T L (vI v :: S) w bc bs Q) (k : (∀ v : Int, lo ≤ v ∧ v < hi → G M scr al alE T L (vI v :: S) w bc bs Q) → G M scr al alE pc L (vI x :: S) w bc bs Q) : G M scr al alE pc L (vI x :: S) w bc bs Q := k J
theorem g_sx {n : Nat} {as : List MV} (hok : g_okS Mj n) (hh : mH Mj ≠ []) (hlink : Cond.methodLink (mY M).cls idx (mY Mj) ∈ g_WS) (hd : decode (mC M) pc = .ok (.invokestatic idx, 3)) (hn : as.length = n)
    (hent : (g_ent as).length ≤ mL Mj) (hroom : mF Mj + 1 ≤ mF M ∧ 8 + (mL Mj + 11) + mO Mj ≤ mO M) (hsz : g_sz S ≤ 8) (hb : 2 ≤ bc ∧ 12 ≤ bs) (hj : GM Mj false as w 2 12 (dt r0 w1)) (kk : G M scr false alE (pc + 3) L (r0.toList ++ S) w1 (bc - 2) (bs - 12) Q) : G M scr false alE pc L (as.reverse ++ S) w bc bs Q :=
  g_callSX hok hh hlink hd hn hent hroom hsz hb hj (fun h => nomatch h) (fun r w' h => by cases h.1; rw [h.2]; exact kk) (fun E w' h => nomatch h.1)
theorem g_sxRIII {b : Nat} {x y z : Int} (hok : g_okS Mj 4) (hh : mH Mj ≠ []) (hlink : Cond.methodLink (mY M).cls idx (mY Mj) ∈ g_WS) (hd : decode (mC M) pc = .ok (.invokestatic idx, 3))
    (hent : 4 ≤ mL Mj) (hroom : mF Mj + 1 ≤ mF M ∧ 8 + (mL Mj + 11) + mO Mj ≤ mO M) (hsz : g_sz S ≤ 8) (hb : 2 ≤ bc ∧ 12 ≤ bs) (hj : GM Mj false [vR b, vI x, vI y, vI z] w 2 12 (dt r0 w1)) (kk : G M scr false alE (pc + 3) L (r0.toList ++ S) w1 (bc - 2) (bs - 12) Q) : G M scr false alE pc L (vI z :: vI y :: vI x :: vR b :: S) w bc bs Q :=
  g_sx (as := [vR b, vI x, vI y, vI z]) hok hh hlink hd rfl hent hroom hsz hb hj kk
theorem g_sxRI {b : Nat} {x : Int} (hok : g_okS Mj 2) (hh : mH Mj ≠ []) (hlink : Cond.methodLink (mY M).cls idx (mY Mj) ∈ g_WS) (hd : decode (mC M) pc = .ok (.invokestatic idx, 3))
    (hent : 2 ≤ mL Mj) (hroom : mF Mj + 1 ≤ mF M ∧ 8 + (mL Mj + 11) + mO Mj ≤ mO M) (hsz : g_sz S ≤ 8) (hb : 2 ≤ bc ∧ 12 ≤ bs) (hj : GM Mj false [vR b, vI x] w 2 12 (dt r0 w1)) (kk : G M scr false alE (pc + 3) L (r0.toList ++ S) w1 (bc - 2) (bs - 12) Q) : G M scr false alE pc L (vI x :: vR b :: S) w bc bs Q :=
  g_sx (as := [vR b, vI x]) hok hh hlink hd rfl hent hroom hsz hb hj kk
theorem g_sxRII {b : Nat} {x y : Int} (hok : g_okS Mj 3) (hh : mH Mj ≠ []) (hlink : Cond.methodLink (mY M).cls idx (mY Mj) ∈ g_WS) (hd : decode (mC M) pc = .ok (.invokestatic idx, 3))
    (hent : 3 ≤ mL Mj) (hroom : mF Mj + 1 ≤ mF M ∧ 8 + (mL Mj + 11) + mO Mj ≤ mO M) (hsz : g_sz S ≤ 8) (hb : 2 ≤ bc ∧ 12 ≤ bs) (hj : GM Mj false [vR b, vI x, vI y] w 2 12 (dt r0 w1)) (kk : G M scr false alE (pc + 3) L (r0.toList ++ S) w1 (bc - 2) (bs - 12) Q) : G M scr false alE pc L (vI y :: vI x :: vR b :: S) w bc bs Q :=
  g_sx (as := [vR b, vI x, vI y]) hok hh hlink hd rfl hent hroom hsz hb hj kk
end
theorem t_L_writeN {κ : KT} {δ o : DT} {σ : SG} (hK : KInv κ) (hs : k_ms κ 0 = σ) {p : Int} (h_p : -2147483648 ≤ p ∧ p < 2147483648) {v : Int} (h_v : -2147483648 ≤ v ∧ v < 2147483648) {x : Int} (h_x : -2147483648 ≤ x ∧ x < 2147483648) {k : Int} (h : xc_wr σ p v x = k) (hk : k ≠ 0) : GM M_L_write false [vR 0, vI p, vI v, vI x] (cW κ δ o) 2 12 (dt (some (vI (-k))) (cW κ δ o)) := by
  subst hs
  have h9 := t_L_write (δ := δ) (o := o) hK h_p h_v h_x
  rw [if_neg (by rw [h]; exact hk), if_neg (by rw [h]; exact hk), h] at h9
  exact h9
theorem t_L_writeY {κ : KT} {δ o : DT} {σ : SG} (hK : KInv κ) (hs : k_ms κ 0 = σ) {p : Int} (h_p : -2147483648 ≤ p ∧ p < 2147483648) {v : Int} (h_v : -2147483648 ≤ v ∧ v < 2147483648) {x : Int} (h_x : -2147483648 ≤ x ∧ x < 2147483648) (h : xc_wr σ p v x = 0) : GM M_L_write false [vR 0, vI p, vI v, vI x] (cW κ δ o) 2 12 (dt (some (vI (oc σ p v))) (cW (k_setms (k_rem κ) 0 (s_wri σ p v x)) δ o)) := by
  subst hs
  have h9 := t_L_write (δ := δ) (o := o) hK h_p h_v h_x
  rw [if_pos h, if_pos h] at h9
  exact h9
theorem t_L_forkN {κ : KT} {δ o : DT} {σ : SG} (hK : KInv κ) (hs : k_ms κ 0 = σ) {p : Int} (h_p : -2147483648 ≤ p ∧ p < 2147483648) {k : Int} (h : xc_fk σ p = k) (hk : k ≠ 0) : GM M_L_fork false [vR 0, vI p] (cW κ δ o) 2 12 (dt (some (vI (-k))) (cW κ δ o)) := by
  subst hs
  have h9 := t_L_fork (δ := δ) (o := o) hK h_p
  rw [if_neg (by rw [h]; exact hk), if_neg (by rw [h]; exact hk), h] at h9
  exact h9
theorem t_L_forkY {κ : KT} {δ o : DT} {σ : SG} (hK : KInv κ) (hs : k_ms κ 0 = σ) {p : Int} (h_p : -2147483648 ≤ p ∧ p < 2147483648) (h : xc_fk σ p = 0) : GM M_L_fork false [vR 0, vI p] (cW κ δ o) 2 12 (dt (some (vI (lup σ))) (cW (k_setms (k_rem κ) 0 (s_for σ p)) δ o)) := by
  subst hs
  have h9 := t_L_fork (δ := δ) (o := o) hK h_p
  rw [if_pos h, if_pos h] at h9
  exact h9
theorem t_L_exitN {κ : KT} {δ o : DT} {σ : SG} (hK : KInv κ) (hs : k_ms κ 0 = σ) {p : Int} (h_p : -2147483648 ≤ p ∧ p < 2147483648) {k : Int} (h : xc_ex σ p = k) (hk : k ≠ 0) : GM M_L_exit false [vR 0, vI p] (cW κ δ o) 2 12 (dt (some (vI (-k))) (cW κ δ o)) := by
  subst hs
  have h9 := t_L_exit (δ := δ) (o := o) hK h_p
  rw [if_neg (by rw [h]; exact hk), if_neg (by rw [h]; exact hk), h] at h9
  exact h9
theorem t_L_exitY {κ : KT} {δ o : DT} {σ : SG} (hK : KInv κ) (hs : k_ms κ 0 = σ) {p : Int} (h_p : -2147483648 ≤ p ∧ p < 2147483648) (h : xc_ex σ p = 0) : GM M_L_exit false [vR 0, vI p] (cW κ δ o) 2 12 (dt (some (vI (nff (s_le σ p 16) - nff σ))) (cW (k_setms (k_rem κ) 0 (s_end σ p)) δ o)) := by
  subst hs
  have h9 := t_L_exit (δ := δ) (o := o) hK h_p
  rw [if_pos h, if_pos h] at h9
  exact h9
theorem t_L_marryN {κ : KT} {δ o : DT} {σ : SG} (hK : KInv κ) (hs : k_ms κ 0 = σ) {p : Int} (h_p : -2147483648 ≤ p ∧ p < 2147483648) {g : Int} (h_g : -2147483648 ≤ g ∧ g < 2147483648) {k : Int} (h : xc_ma σ p g = k) (hk : k ≠ 0) : GM M_L_marry false [vR 0, vI p, vI g] (cW κ δ o) 2 12 (dt (some (vI (-k))) (cW κ δ o)) := by
  subst hs
  have h9 := t_L_marry (δ := δ) (o := o) hK h_p h_g
  rw [if_neg (by rw [h]; exact hk), if_neg (by rw [h]; exact hk), h] at h9
  exact h9
theorem t_L_marryY {κ : KT} {δ o : DT} {σ : SG} (hK : KInv κ) (hs : k_ms κ 0 = σ) {p : Int} (h_p : -2147483648 ≤ p ∧ p < 2147483648) {g : Int} (h_g : -2147483648 ≤ g ∧ g < 2147483648) (h : xc_ma σ p g = 0) : GM M_L_marry false [vR 0, vI p, vI g] (cW κ δ o) 2 12 (dt (some (vI (if ip σ p g = true then 0 else 4))) (cW (k_setms (k_rem κ) 0 (s_mar σ p g)) δ o)) := by
  subst hs
  have h9 := t_L_marry (δ := δ) (o := o) hK h_p h_g
  rw [if_pos h, if_pos h] at h9
  exact h9
theorem t_L_tearN {κ : KT} {δ o : DT} {σ : SG} (hK : KInv κ) (hs : k_ms κ 0 = σ) {p : Int} (h_p : -2147483648 ≤ p ∧ p < 2147483648) {g : Int} (h_g : -2147483648 ≤ g ∧ g < 2147483648) {k : Int} (h : xc_te σ p g = k) (hk : k ≠ 0) : GM M_L_tear false [vR 0, vI p, vI g] (cW κ δ o) 2 12 (dt (some (vI (-k))) (cW κ δ o)) := by
  subst hs
  have h9 := t_L_tear (δ := δ) (o := o) hK h_p h_g
  rw [if_neg (by rw [h]; exact hk), if_neg (by rw [h]; exact hk), h] at h9
  exact h9
theorem t_L_tearY {κ : KT} {δ o : DT} {σ : SG} (hK : KInv κ) (hs : k_ms κ 0 = σ) {p : Int} (h_p : -2147483648 ≤ p ∧ p < 2147483648) {g : Int} (h_g : -2147483648 ≤ g ∧ g < 2147483648) (h : xc_te σ p g = 0) : GM M_L_tear false [vR 0, vI p, vI g] (cW κ δ o) 2 12 (dt (some (vI (ro σ p g))) (cW (k_setms (k_rem κ) 0 (s_torn σ p g)) δ o)) := by
  subst hs
  have h9 := t_L_tear (δ := δ) (o := o) hK h_p h_g
  rw [if_pos h, if_pos h] at h9
  exact h9
theorem wr_cases {σ : SG} {p v x : Int} (hv : 0 ≤ v ∧ v < 16) (hx : 0 ≤ x ∧ x < 100) : (hasP σ p = false ∧ xc_wr σ p v x = 1) ∨ (hasPg σ p v = true ∧ hasP σ p = true ∧ oc σ p v = -1 ∧ xc_wr σ p v x = 3) ∨ (hasPg σ p v = true ∧ hasP σ p = true ∧ oc σ p v ≠ -1 ∧ xc_wr σ p v x = 0) := by
  unfold xc_wr
  cases h : hasP σ p with
  | false =>
    refine Or.inl ⟨rfl, ?_⟩
    rw [if_neg (by unfold hasPg; rw [h, Bool.false_and]; decide)]
  | true =>
    have h1 : hasPg σ p v = true := by unfold hasPg; rw [h, Bool.true_and]; exact decide_eq_true hv
    rw [if_pos h1, if_neg (by omega)]
    by_cases q : oc σ p v = -1
    · rw [if_pos q]; exact Or.inr (Or.inl ⟨h1, rfl, q, rfl⟩)
    · rw [if_neg q]; exact Or.inr (Or.inr ⟨h1, rfl, q, rfl⟩)
theorem gr_of {σ : SG} {p g : Int} (hg : 0 ≤ g ∧ g < 4) : hasGr σ p g = hasP σ p := by
  unfold hasGr
  rw [decide_eq_true hg, Bool.and_true]
theorem hasP_ex {σ τ : SG} (h : s_ex τ = s_ex σ) (p : Int) : hasP τ p = hasP σ p := by unfold hasP; rw [h]
/-- what goes on holding -/
def TI (κ : KT) (σ : SG) : Prop := KInv κ ∧ k_ms κ 0 = σ ∧ BI σ ∧ 0 < nex σ
theorem ti_set {κ : KT} {σ : SG} (hK : KInv κ) (hi : Inv σ) (hb : BI σ) (hn : 0 < nex σ) : TI (k_setms (k_rem κ) 0 σ) σ := ⟨kinv_ms (kinv_rem hK) hi, ms_at _ _ _, hb, hn⟩
def TL (n : Nat) (f : Nat → Int) (t : Nat) : Prop := ∀ (κ : KT) (σ : SG) (o : DT), TI κ σ → ZI o → G M_L_law (some (n, f)) false false 804 [some (vR SCR), some (vR 0), some (vR 79), some (vR 80), some (vR 81), some (vR 82), some (vR 83), some (vR 84), some (vI (t : Int)), none, none, none, none, none, none, none, none] [] (cW κ (lawm σ) o) (5002 + 5100 * (19 - t)) (6 * (5002 + 5100 * (19 - t))) LQ
set_option maxRecDepth 20000 in
set_option maxHeartbeats 600000 in
theorem lk_0 {n : Nat} {f : Nat → Int} {t : Nat} (ht : t < 20) {κ : KT} {σ : SG} {o : DT} (hK : KInv κ) (hs : k_ms κ 0 = σ) (hbi : BI σ) (hnx : 0 < nex σ) (hz : ZI o) {x kd p gg g : Int} (h_p : 0 ≤ p ∧ p < 4) (hG : gg = 4 * p + g) (h_g : 0 ≤ g ∧ g < 4) (hT : TL n f t) : G M_L_law (some (n, f)) false false 123 [some (vR SCR), some (vR 0), some (vR 79), some (vR 80), some (vR 81), some (vR 82), some (vR 83), some (vR 84), some (vI (t : Int)), some (vI (x)), some (vI (kd)), some (vI (p)), some (vI (gg)), some (vI (b2 (hasP σ p))), none, none, none] [] (cW κ (lawm σ) o) (5002 + 5100 * (19 - t) + 8) (6 * (5002 + 5100 * (19 - t) + 8)) LQ := by
  have hi : Inv σ := hs ▸ hK.2.2.1 0
  obtain ⟨th, hth⟩ : ∃ th, hasP σ p = th := ⟨_, rfl⟩
  rw [hth]
  refine g_iconst (pc := 123) dL_law_123 ?_
  refine g_istore (pc := 124) dL_law_124 (by decide) rfl ?_
  simp only [List.set_cons_succ, List.set_cons_zero]
  refine G.bud (bc := 5002 + 5100 * (19 - t) + 2 * (4 - 0)) (bs := 6 * (5002 + 5100 * (19 - t) + 2 * (4 - 0))) ?_ (by omega) (by omega)
  refine lp_up (P := fun i => ∀ (κ : KT) (σ : SG), TI κ σ → hasP σ p = th → G M_L_law (some (n, f)) false false 126 [some (vR SCR), some (vR 0), some (vR 79), some (vR 80), some (vR 81), some (vR 82), some (vR 83), some (vR 84), some (vI (t : Int)), some (vI (x)), some (vI (kd)), some (vI (p)), some (vI (gg)), some (vI (b2 th)), some (vI ((i : Int))), none, none] [] (cW κ (lawm σ) o) (5002 + 5100 * (19 - t) + 2 * (4 - i)) (6 * (5002 + 5100 * (19 - t) + 2 * (4 - i))) LQ) 4 ?_ ?_ 0 (Nat.zero_le _) κ σ ⟨hK, hs, hbi, hnx⟩ hth
  · intro κ σ hti hth
    obtain ⟨hK, hs, hbi, hnx⟩ := id hti
    show G _ _ _ _ _ _ _ _ _ _ _
    refine g_iload (pc := 126) dL_law_126 rfl ?_
    refine g_iconst (pc := 128) dL_law_128 ?_
    refine g_c_ge (tgt := 228) (pc := 129) dL_law_129 (by omega) (by decide) (fun c129 => ?_) (fun c129 => absurd c129 (by omega))
    refine g_goto (tgt := 804) (pc := 228) dL_law_228 (by decide) ?_
    refine G.drop 16 (G.drop 15 (G.drop 14 (G.drop 13 (G.drop 12 (G.drop 11 (G.drop 10 (G.drop 9 ?_)))))))
    simp only [List.set_cons_succ, List.set_cons_zero]
    exact G.bud (hT _ _ _ ⟨hK, hs, hbi, hnx⟩ hz) (by omega) (by omega)
  · intro i hi9 ih κ σ hti hth
    obtain ⟨hK, hs, hbi, hnx⟩ := id hti
    have hi : Inv σ := hs ▸ hK.2.2.1 0
    show G _ _ _ _ _ _ _ _ _ _ _
    refine g_iload (pc := 126) dL_law_126 rfl ?_
    refine g_iconst (pc := 128) dL_law_128 ?_
    refine g_c_ge (tgt := 228) (pc := 129) dL_law_129 (by omega) (by decide) (fun c129 => absurd c129 (by omega)) (fun c129 => ?_)
    refine g_iload (pc := 132) dL_law_132 rfl ?_
    refine g_bipush (pc := 134) dL_law_134 (by decide) ?_
    refine g_iload (pc := 136) dL_law_136 rfl ?_
    refine g_iadd (pc := 138) dL_law_138 ?_
    refine g_ishr (pc := 139) dL_law_139 ?_
    refine g_bipush (pc := 140) dL_law_140 (by decide) ?_
    refine g_sII (pc := 142) okS_L_low rfl l_L_123 dL_law_142 (by decide) (by decide) (Nat.le_of_ble_eq_true rfl) (t_L_low (by omega)) rfl ?_
    simp only [Option.toList, List.cons_append, List.nil_append]
    have bb := lowv_rng ((b_shr x (7 + (i : Int)))) (n := 16) (by omega)
    refine g_istore (pc := 145) dL_law_145 (by decide) rfl ?_
    simp only [List.set_cons_succ, List.set_cons_zero]
    refine g_iload (pc := 147) dL_law_147 rfl ?_
    refine g_bipush (pc := 149) dL_law_149 (by decide) ?_
    refine g_iload (pc := 151) dL_law_151 rfl ?_
    refine g_iadd (pc := 153) dL_law_153 ?_
    refine g_ishr (pc := 154) dL_law_154 ?_
    refine g_iconst (pc := 155) dL_law_155 ?_
    refine g_sII (pc := 156) okS_L_low rfl l_L_123 dL_law_156 (by decide) (by decide) (Nat.le_of_ble_eq_true rfl) (t_L_low (by omega)) rfl ?_
    simp only [Option.toList, List.cons_append, List.nil_append]
    have bb := lowv_rng ((b_shr x (11 + (i : Int)))) (n := 3) (by omega)
    refine G.joinA1 (T := 179) (lo := 0) (hi := 100) (fun v9 hv9 => ?_) (fun J => ?_)
    · skip
      refine g_istore (pc := 179) dL_law_179 (by decide) rfl ?_
      simp only [List.set_cons_succ, List.set_cons_zero]
      rcases wr_cases (σ := σ) (p := p) (v := (lowv (b_shr x (7 + (i : Int))) 16)) (x := v9) (by omega) hv9 with ⟨h1, h2⟩ | ⟨hpg, h1, h3, h2⟩ | ⟨hpg, h1, h3, h2⟩
      · skip
        have b0 : b2 th = 0 := by rw [← hth, h1]; rfl
        refine g_aload_n (i := 1) (pc := 181) dL_law_181 rfl rfl ?_
        refine g_iload (pc := 182) dL_law_182 rfl ?_
        refine g_iload (pc := 184) dL_law_184 rfl ?_
        refine g_iload (pc := 186) dL_law_186 rfl ?_
        refine g_sxRIII (pc := 188) okS_L_write (by decide) l_L_126 dL_law_188 (by decide) (by decide) (Nat.le_of_ble_eq_true rfl) ⟨by omega, by omega⟩ (t_L_writeN hK hs (p := p) (v := (lowv (b_shr x (7 + (i : Int))) 16)) (x := v9) (by omega) (by omega) (by omega) h2 (by decide)) ?_
        simp only [Option.toList, List.cons_append, List.nil_append]
        refine g_iload (pc := 191) dL_law_191 rfl ?_
        refine g_z_eq (tgt := 216) (pc := 193) dL_law_193 (by omega) (by decide) (fun c193 => ?_) (fun c193 => absurd c193 (by omega))
        refine g_iconst (pc := 216) dL_law_216 ?_
        refine g_c_eq (tgt := 222) (pc := 217) dL_law_217 (by omega) (by decide) (fun c217 => ?_) (fun c217 => absurd c217 (by omega))
        refine g_iinc (pc := 222) dL_law_222 rfl (by decide) rfl ?_
        simp only [List.set_cons_succ, List.set_cons_zero]
        refine g_goto (tgt := 126) (pc := 225) dL_law_225 (by decide) ?_
        refine G.drop 16 (G.drop 15 ?_)
        simp only [List.set_cons_succ, List.set_cons_zero]
        exact G.bud (ih κ σ hti hth) (by omega) (by omega)
      · skip
        have b1 : b2 th = 1 := by rw [← hth, h1]; rfl
        refine g_aload_n (i := 1) (pc := 181) dL_law_181 rfl rfl ?_
        refine g_iload (pc := 182) dL_law_182 rfl ?_
        refine g_iload (pc := 184) dL_law_184 rfl ?_
        refine g_iload (pc := 186) dL_law_186 rfl ?_
        refine g_sxRIII (pc := 188) okS_L_write (by decide) l_L_126 dL_law_188 (by decide) (by decide) (Nat.le_of_ble_eq_true rfl) ⟨by omega, by omega⟩ (t_L_writeN hK hs (p := p) (v := (lowv (b_shr x (7 + (i : Int))) 16)) (x := v9) (by omega) (by omega) (by omega) h2 (by decide)) ?_
        simp only [Option.toList, List.cons_append, List.nil_append]
        refine g_iload (pc := 191) dL_law_191 rfl ?_
        refine g_z_eq (tgt := 216) (pc := 193) dL_law_193 (by omega) (by decide) (fun c193 => absurd c193 (by omega)) (fun c193 => ?_)
        refine g_bipush (pc := 196) dL_law_196 (by decide) ?_
        refine g_iload (pc := 198) dL_law_198 rfl ?_
        refine g_imul (pc := 200) dL_law_200 ?_
        refine g_iload (pc := 201) dL_law_201 rfl ?_
        refine g_iadd (pc := 203) dL_law_203 ?_
        refine g_iload (pc := 204) dL_law_204 rfl ?_
        refine g_aload_n (i := 2) (pc := 206) dL_law_206 rfl rfl ?_
        refine g_aload_n (i := 3) (pc := 207) dL_law_207 rfl rfl ?_
        refine g_aload (pc := 208) dL_law_208 rfl ?_
        refine G.eqw cL_self ?_
        refine g_sIIRRR (pc := 210) okS_L_writes rfl l_L_111 dL_law_210 (by decide) (by decide) (Nat.le_of_ble_eq_true rfl) (t_L_writes (a := 79) (σ := σ) (p := p) (v := (lowv (b_shr x (7 + (i : Int))) 16)) cL_ok hi rfl h_p (by omega) hpg hv9) (by simp only [l_len]) ?_
        rw [if_pos h3, if_pos h3]
        simp only [Option.toList, List.cons_append, List.nil_append]
        refine G.eqw cL_set ?_
        refine g_goto (tgt := 217) (pc := 213) dL_law_213 (by decide) ?_
        refine g_c_eq (tgt := 222) (pc := 217) dL_law_217 (by omega) (by decide) (fun c217 => ?_) (fun c217 => absurd c217 (by omega))
        refine g_iinc (pc := 222) dL_law_222 rfl (by decide) rfl ?_
        simp only [List.set_cons_succ, List.set_cons_zero]
        refine g_goto (tgt := 126) (pc := 225) dL_law_225 (by decide) ?_
        refine G.drop 16 (G.drop 15 ?_)
        simp only [List.set_cons_succ, List.set_cons_zero]
        exact G.bud (ih κ σ hti hth) (by omega) (by omega)
      · skip
        have b1 : b2 th = 1 := by rw [← hth, h1]; rfl
        have or9 := oc_rng σ p (lowv (b_shr x (7 + (i : Int))) 16)
        refine g_aload_n (i := 1) (pc := 181) dL_law_181 rfl rfl ?_
        refine g_iload (pc := 182) dL_law_182 rfl ?_
        refine g_iload (pc := 184) dL_law_184 rfl ?_
        refine g_iload (pc := 186) dL_law_186 rfl ?_
        refine g_sxRIII (pc := 188) okS_L_write (by decide) l_L_126 dL_law_188 (by decide) (by decide) (Nat.le_of_ble_eq_true rfl) ⟨by omega, by omega⟩ (t_L_writeY hK hs (p := p) (v := (lowv (b_shr x (7 + (i : Int))) 16)) (x := v9) (by omega) (by omega) (by omega) h2) ?_
        simp only [Option.toList, List.cons_append, List.nil_append]
        refine g_iload (pc := 191) dL_law_191 rfl ?_
        refine g_z_eq (tgt := 216) (pc := 193) dL_law_193 (by omega) (by decide) (fun c193 => absurd c193 (by omega)) (fun c193 => ?_)
        refine g_bipush (pc := 196) dL_law_196 (by decide) ?_
        refine g_iload (pc := 198) dL_law_198 rfl ?_
        refine g_imul (pc := 200) dL_law_200 ?_
        refine g_iload (pc := 201) dL_law_201 rfl ?_
        refine g_iadd (pc := 203) dL_law_203 ?_
        refine g_iload (pc := 204) dL_law_204 rfl ?_
        refine g_aload_n (i := 2) (pc := 206) dL_law_206 rfl rfl ?_
        refine g_aload_n (i := 3) (pc := 207) dL_law_207 rfl rfl ?_
        refine g_aload (pc := 208) dL_law_208 rfl ?_
        refine G.eqw cL_self ?_
        refine g_sIIRRR (pc := 210) okS_L_writes rfl l_L_111 dL_law_210 (by decide) (by decide) (Nat.le_of_ble_eq_true rfl) (t_L_writes (a := 79) (σ := σ) (p := p) (v := (lowv (b_shr x (7 + (i : Int))) 16)) cL_ok hi rfl h_p (by omega) hpg hv9) (by simp only [l_len]) ?_
        rw [if_neg h3, if_neg h3]
        simp only [Option.toList, List.cons_append, List.nil_append]
        refine G.eqw cL_set ?_
        refine g_goto (tgt := 217) (pc := 213) dL_law_213 (by decide) ?_
        refine g_c_eq (tgt := 222) (pc := 217) dL_law_217 (by omega) (by decide) (fun c217 => ?_) (fun c217 => absurd c217 (by omega))
        refine g_iinc (pc := 222) dL_law_222 rfl (by decide) rfl ?_
        simp only [List.set_cons_succ, List.set_cons_zero]
        refine g_goto (tgt := 126) (pc := 225) dL_law_225 (by decide) ?_
        refine G.drop 16 (G.drop 15 ?_)
        simp only [List.set_cons_succ, List.set_cons_zero]
        exact G.bud (ih _ _ (ti_set hK (inv_wri hi h3 hv9) (bi_wri hbi h_p (by omega) v9) (by rw [nex_of (wri_ex σ p (lowv (b_shr x (7 + (i : Int))) 16) v9)]; exact hnx)) (by rw [hasP_ex (wri_ex σ p (lowv (b_shr x (7 + (i : Int))) 16) v9)]; exact hth)) (by omega) (by omega)
    · skip
      refine g_z_ne (tgt := 166) (pc := 159) dL_law_159 (by omega) (by decide) (fun c159 => ?_) (fun c159 => ?_)
      · skip
        refine g_iload (pc := 166) dL_law_166 rfl ?_
        refine g_bipush (pc := 168) dL_law_168 (by decide) ?_
        refine g_iload (pc := 170) dL_law_170 rfl ?_
        refine g_iadd (pc := 172) dL_law_172 ?_
        refine g_ishr (pc := 173) dL_law_173 ?_
        refine g_bipush (pc := 174) dL_law_174 (by decide) ?_
        refine g_sII (pc := 176) okS_L_low rfl l_L_123 dL_law_176 (by decide) (by decide) (Nat.le_of_ble_eq_true rfl) (t_L_low (by omega)) rfl ?_
        simp only [Option.toList, List.cons_append, List.nil_append]
        have bb := lowv_rng ((b_shr x (9 + (i : Int)))) (n := 100) (by omega)
        exact J _ (by omega)
      · skip
        refine g_iconst (pc := 162) dL_law_162 ?_
        refine g_goto (tgt := 179) (pc := 163) dL_law_163 (by decide) ?_
        exact J _ (by omega)
end LA9
