/-! THE LAW'S OWN CALLS, each with its catches (printed by wip/p28/wrap.py, but for the first rows) -/
section MW
theorem xR_i {c v : Int} {r : Option MV} {E1 E2 E3 : String} (h : Sum.inl r = xR c v E1 E2 E3) : c = 0 ∧ r = some (vI v) := by
  unfold xR at h
  by_cases q : c = 0
  · rw [if_pos q] at h
    exact ⟨q, Sum.inl.inj h⟩
  · rw [if_neg q] at h
    (repeat' split at h) <;> cases h
theorem xR_e {c v : Int} {E E1 E2 E3 : String} (h : Sum.inr E = xR c v E1 E2 E3) : (c = 1 ∧ E = E1) ∨ (c = 2 ∧ E = E2) ∨ (c ≠ 0 ∧ c ≠ 1 ∧ c ≠ 2 ∧ E = E3) := by
  unfold xR at h
  by_cases q0 : c = 0
  · rw [if_pos q0] at h
    cases h
  · rw [if_neg q0] at h
    by_cases q1 : c = 1
    · rw [if_pos q1] at h
      exact Or.inl ⟨q1, Sum.inr.inj h⟩
    · rw [if_neg q1] at h
      by_cases q2 : c = 2
      · rw [if_pos q2] at h
        exact Or.inr (Or.inl ⟨q2, Sum.inr.inj h⟩)
      · rw [if_neg q2] at h
        exact Or.inr (Or.inr ⟨q0, q1, q2, Sum.inr.inj h⟩)
theorem pW_0 {c v : Int} {κ1 κ : KT} {δ o : DT} {w : List MC} (hc : c = 0) (hw : w = cW (if c = 0 then κ1 else κ) δ o) : dt (some (vI (if c = 0 then v else -c))) (cW (if c = 0 then κ1 else κ) δ o) (.inl (some (vI v))) w :=
  ⟨by rw [if_pos hc], hw⟩
theorem pW_1 {c v k : Int} {κ1 κ : KT} {δ o : DT} {w : List MC} (hc : c = k) (h0 : k ≠ 0) (hw : w = cW (if c = 0 then κ1 else κ) δ o) : dt (some (vI (if c = 0 then v else -c))) (cW (if c = 0 then κ1 else κ) δ o) (.inl (some (vI (-k)))) w :=
  ⟨by rw [if_neg (by omega), hc], hw⟩
section
variable {M : MT} {scr : Option (Nat × (Nat → Int))} {al alE : Bool} {pc : Nat} {L : List (Option MV)} {S : List MV} {w w1 : List MC} {bc bs : Nat} {Q : (Option MV) ⊕ String → List MC → Prop}
theorem GX.catchW {E nm : String} (pre : List (Nat × Nat × Nat × Nat)) (x : Nat × Nat × Nat × Nat) (suf : List (Nat × Nat × Nat × Nat)) {i : Nat} (hh : mH M = pre ++ x :: suf) (hpass : ∀ z ∈ pre, z.2.2.2 ≠ 0 ∧ ∃ n9 : String, Cond.classLink (mY M).cls z.2.2.2 n9 ∈ g_WS ∧ (E, n9) ∈ g_ncs) (hx : x.1 ≤ pc ∧ pc < x.2.1) (h0 : x.2.2.2 ≠ 0) (hlink : Cond.classLink (mY M).cls x.2.2.2 nm ∈ g_WS) (hc : (E, nm) ∈ g_csts)
    (hd : decode (mC M) x.2.2.1 = .ok (.astore i, 2)) (hn : i < mL M) (hk : g_nl L i = true) (kk : G M scr false alE (x.2.2.1 + 2) (L.set i none) [] w bc bs Q) : GX M scr alE pc L S E w bc bs Q := by
  intro p l e R s m args below meth c D cA ad base A H locs cells slots mc ms ls q ce fx dy hl hce hcv hcl
  obtain ⟨f1, f2, f3, f4, f5, f6, f7, f8, f9, f10, f11, f12, f13, f14⟩ := id fx
  have hsp : c.exceptionTable.toList = tableOf pre ++ (⟨x.1, x.2.1, x.2.2.1, x.2.2.2⟩ : ExceptionTableEntry) :: tableOf suf := by rw [f8, hh]; simp [tableOf]
  refine vx_catch (E := E) (name := nm) f9 (tableOf pre) ⟨x.1, x.2.1, x.2.2.1, x.2.2.2⟩ (tableOf suf) hsp (fun z hz => ?_) ?_ h0 (f10 _ hlink) (va_Nw.use rfl (f13.2.2.2.1 _ hc)) hce hcv hcl ?_
  · unfold tableOf at hz
    obtain ⟨y, hy, rfl⟩ := List.mem_map.mp hz
    obtain ⟨a1, n9, a2, a3⟩ := hpass y hy
    exact Or.inr ⟨a1, n9, f10 _ a2, f13.2.2.2.2.2.2.1 _ a3⟩
  · simp [covers, hx.1, hx.2]
  · refine lv_astore f1 f3 hd hl hn rfl (fun ls' hl' => ?_)
    refine kk p l e R s m args below meth c D cA ad base A H locs cells slots mc ms ls' fx dy (g_keep hl' (fun q9 hq9 => ?_))
    have h7 := g_set1 (ad := ad) (x := vR q) hk q9
    refine List.mem_cons_of_mem _ ?_
    obtain ⟨j, v, b1, b2⟩ := g_L_mem.mp hq9
    by_cases hj : i = j
    · subst hj
      by_cases hl9 : i < L.length
      · rw [List.getElem?_set_self hl9] at b1; cases b1
      · rw [List.getElem?_eq_none (by simp; omega)] at b1; cases b1
    · rw [List.getElem?_set_ne hj] at b1
      have h8 : q9 ∈ g_L ad 0 (L.set i (some (vR q))) := g_L_mem.mpr ⟨j, v, by rw [List.getElem?_set_ne hj]; exact b1, b2⟩
      rcases List.mem_cons.mp (h7 h8) with h6 | h6
      · rw [b2] at h6
        exact absurd (congrArg Prod.fst h6).symm (by show ¬ i = 0 + j; omega)
      · exact h6
end
set_option maxRecDepth 20000 in
set_option maxHeartbeats 400000 in
theorem t_L_write {κ : KT} {δ o : DT} (hK : KInv κ) {p : Int} (h_p : -2147483648 ≤ p ∧ p < 2147483648) {v : Int} (h_v : -2147483648 ≤ v ∧ v < 2147483648) {x : Int} (h_x : -2147483648 ≤ x ∧ x < 2147483648) : GM M_L_write false [vR 0, vI p, vI v, vI x] (cW κ δ o) 2 12 (dt (some (vI (if xc_wr (k_ms κ 0) p v x = 0 then oc (k_ms κ 0) p v else -(xc_wr (k_ms κ 0) p v x)))) (cW (if xc_wr (k_ms κ 0) p v x = 0 then k_setms (k_rem κ) 0 (s_wri (k_ms κ 0) p v x) else κ) δ o)) := by
  show G _ none _ _ 0 [some (vR 0), some (vI p), some (vI v), some (vI x), none] [] _ _ _ _
  have hr9 : 0 ≤ xc_wr (k_ms κ 0) p v x ∧ xc_wr (k_ms κ 0) p v x ≤ 3 := by unfold xc_wr; (repeat' split) <;> omega
  refine g_aload_n (i := 0) (pc := 0) dL_write_0 rfl rfl ?_
  refine g_iload_n (i := 1) (pc := 1) dL_write_1 rfl rfl ?_
  refine g_iload_n (i := 2) (pc := 2) dL_write_2 rfl rfl ?_
  refine g_iload_n (i := 3) (pc := 3) dL_write_3 rfl rfl ?_
  refine g_callV (pc := 4) (as := [vI p, vI v, vI x]) (bc' := 2) (bs' := 12) okV_X3_write rfl l_L_10 dL_write_4 c_0 hc_3 rfl (Nat.le_of_ble_eq_true rfl) (by decide) (Nat.le_of_ble_eq_true rfl) ⟨Nat.le_refl _, Nat.le_refl _⟩ (t_X3_write hK h_p h_v h_x) (fun h => nomatch h) (fun r w' h => ?_) (fun E w' h => ?_)
  · obtain ⟨h1, h2⟩ := h
    subst h2
    obtain ⟨hc, rfl⟩ := xR_i h1
    simp only [Option.toList, List.cons_append, List.nil_append]
    refine g_iret (pc := 7) rfl dL_write_7 (fun h => h) ?_
    exact pW_0 hc rfl
  · obtain ⟨h1, h2⟩ := h
    subst h2
    rcases xR_e h1 with ⟨hc, rfl⟩ | ⟨hc, rfl⟩ | ⟨hc0, hc1, hc2, rfl⟩
    · refine GX.catchW (E := "java/lang/IndexOutOfBoundsException") (nm := "java/lang/IndexOutOfBoundsException") [] (0, 7, 8, 16) [(0, 7, 12, 18), (0, 7, 17, 20)] (i := 4) rfl (fun z h => nomatch h) (by decide) (by decide) cl_L_16 (by decide +kernel) dL_write_8 (by decide) rfl ?_
      simp only [List.set_cons_succ, List.set_cons_zero]
      refine g_iconst (pc := 10) dL_write_10 ?_
      refine g_iret (pc := 11) rfl dL_write_11 (fun h => h) ?_
      exact pW_1 (k := 1) hc (by decide) rfl
    · refine GX.catchW (E := "java/lang/IllegalArgumentException") (nm := "java/lang/IllegalArgumentException") [(0, 7, 8, 16)] (0, 7, 12, 18) [(0, 7, 17, 20)] (i := 4) rfl (fun z h => by
        simp only [List.mem_cons, List.not_mem_nil, or_false] at h
        rcases h with rfl
        · exact ⟨by decide, _, cl_L_16, by decide +kernel⟩) (by decide) (by decide) cl_L_18 (by decide +kernel) dL_write_12 (by decide) rfl ?_
      simp only [List.set_cons_succ, List.set_cons_zero]
      refine g_bipush (pc := 14) dL_write_14 (by decide) ?_
      refine g_iret (pc := 16) rfl dL_write_16 (fun h => h) ?_
      exact pW_1 (k := 2) hc (by decide) rfl
    · refine GX.catchW (E := "java/lang/IllegalStateException") (nm := "java/lang/IllegalStateException") [(0, 7, 8, 16), (0, 7, 12, 18)] (0, 7, 17, 20) [] (i := 4) rfl (fun z h => by
        simp only [List.mem_cons, List.not_mem_nil, or_false] at h
        rcases h with rfl | rfl
        · exact ⟨by decide, _, cl_L_16, by decide +kernel⟩
        · exact ⟨by decide, _, cl_L_18, by decide +kernel⟩) (by decide) (by decide) cl_L_20 (by decide +kernel) dL_write_17 (by decide) rfl ?_
      simp only [List.set_cons_succ, List.set_cons_zero]
      refine g_bipush (pc := 19) dL_write_19 (by decide) ?_
      refine g_iret (pc := 21) rfl dL_write_21 (fun h => h) ?_
      exact pW_1 (k := 3) (by omega) (by decide) rfl
set_option maxRecDepth 20000 in
set_option maxHeartbeats 400000 in
theorem t_L_fork {κ : KT} {δ o : DT} (hK : KInv κ) {p : Int} (h_p : -2147483648 ≤ p ∧ p < 2147483648) : GM M_L_fork false [vR 0, vI p] (cW κ δ o) 2 12 (dt (some (vI (if xc_fk (k_ms κ 0) p = 0 then lup (k_ms κ 0) else -(xc_fk (k_ms κ 0) p)))) (cW (if xc_fk (k_ms κ 0) p = 0 then k_setms (k_rem κ) 0 (s_for (k_ms κ 0) p) else κ) δ o)) := by
  show G _ none _ _ 0 [some (vR 0), some (vI p), none] [] _ _ _ _
  have hr9 : 0 ≤ xc_fk (k_ms κ 0) p ∧ xc_fk (k_ms κ 0) p ≤ 2 := by unfold xc_fk; (repeat' split) <;> omega
  refine g_aload_n (i := 0) (pc := 0) dL_fork_0 rfl rfl ?_
  refine g_iload_n (i := 1) (pc := 1) dL_fork_1 rfl rfl ?_
  refine g_callV (pc := 2) (as := [vI p]) (bc' := 2) (bs' := 12) okV_X3_fork rfl l_L_22 dL_fork_2 c_0 hc_3 rfl (Nat.le_of_ble_eq_true rfl) (by decide) (Nat.le_of_ble_eq_true rfl) ⟨Nat.le_refl _, Nat.le_refl _⟩ (t_X3_fork hK h_p) (fun h => nomatch h) (fun r w' h => ?_) (fun E w' h => ?_)
  · obtain ⟨h1, h2⟩ := h
    subst h2
    obtain ⟨hc, rfl⟩ := xR_i h1
    simp only [Option.toList, List.cons_append, List.nil_append]
    refine g_iret (pc := 5) rfl dL_fork_5 (fun h => h) ?_
    exact pW_0 hc rfl
  · obtain ⟨h1, h2⟩ := h
    subst h2
    rcases xR_e h1 with ⟨hc, rfl⟩ | ⟨hc, rfl⟩ | ⟨hc0, hc1, hc2, rfl⟩
    · refine GX.catch (E := "java/lang/IndexOutOfBoundsException") (nm := "java/lang/IndexOutOfBoundsException") [] (0, 5, 6, 16) [(0, 5, 9, 20)] (i := 2) rfl (fun z h => nomatch h) (by decide) (by decide) cl_L_16 (by decide +kernel) dL_fork_6 rfl (by decide) rfl ?_
      simp only [List.set_cons_succ, List.set_cons_zero]
      refine g_iconst (pc := 7) dL_fork_7 ?_
      refine g_iret (pc := 8) rfl dL_fork_8 (fun h => h) ?_
      exact pW_1 (k := 1) hc (by decide) rfl
    · refine GX.catch (E := "java/lang/IllegalStateException") (nm := "java/lang/IllegalStateException") [(0, 5, 6, 16)] (0, 5, 9, 20) [] (i := 2) rfl (fun z h => by
        simp only [List.mem_cons, List.not_mem_nil, or_false] at h
        rcases h with rfl
        · exact ⟨by decide, _, cl_L_16, by decide +kernel⟩) (by decide) (by decide) cl_L_20 (by decide +kernel) dL_fork_9 rfl (by decide) rfl ?_
      simp only [List.set_cons_succ, List.set_cons_zero]
      refine g_bipush (pc := 10) dL_fork_10 (by decide) ?_
      refine g_iret (pc := 12) rfl dL_fork_12 (fun h => h) ?_
      exact pW_1 (k := 2) hc (by decide) rfl
    · exfalso
      omega
set_option maxRecDepth 20000 in
set_option maxHeartbeats 400000 in
theorem t_L_exit {κ : KT} {δ o : DT} (hK : KInv κ) {p : Int} (h_p : -2147483648 ≤ p ∧ p < 2147483648) : GM M_L_exit false [vR 0, vI p] (cW κ δ o) 2 12 (dt (some (vI (if xc_ex (k_ms κ 0) p = 0 then nff (s_le (k_ms κ 0) p 16) - nff (k_ms κ 0) else -(xc_ex (k_ms κ 0) p)))) (cW (if xc_ex (k_ms κ 0) p = 0 then k_setms (k_rem κ) 0 (s_end (k_ms κ 0) p) else κ) δ o)) := by
  show G _ none _ _ 0 [some (vR 0), some (vI p), none] [] _ _ _ _
  have hr9 : 0 ≤ xc_ex (k_ms κ 0) p ∧ xc_ex (k_ms κ 0) p ≤ 2 := by unfold xc_ex; (repeat' split) <;> omega
  refine g_aload_n (i := 0) (pc := 0) dL_exit_0 rfl rfl ?_
  refine g_iload_n (i := 1) (pc := 1) dL_exit_1 rfl rfl ?_
  refine g_callV (pc := 2) (as := [vI p]) (bc' := 2) (bs' := 12) okV_X3_exit rfl l_L_26 dL_exit_2 c_0 hc_3 rfl (Nat.le_of_ble_eq_true rfl) (by decide) (Nat.le_of_ble_eq_true rfl) ⟨Nat.le_refl _, Nat.le_refl _⟩ (t_X3_exit hK h_p) (fun h => nomatch h) (fun r w' h => ?_) (fun E w' h => ?_)
  · obtain ⟨h1, h2⟩ := h
    subst h2
    obtain ⟨hc, rfl⟩ := xR_i h1
    simp only [Option.toList, List.cons_append, List.nil_append]
    refine g_iret (pc := 5) rfl dL_exit_5 (fun h => h) ?_
    exact pW_0 hc rfl
  · obtain ⟨h1, h2⟩ := h
    subst h2
    rcases xR_e h1 with ⟨hc, rfl⟩ | ⟨hc, rfl⟩ | ⟨hc0, hc1, hc2, rfl⟩
    · refine GX.catch (E := "java/lang/IndexOutOfBoundsException") (nm := "java/lang/IndexOutOfBoundsException") [] (0, 5, 6, 16) [(0, 5, 9, 20)] (i := 2) rfl (fun z h => nomatch h) (by decide) (by decide) cl_L_16 (by decide +kernel) dL_exit_6 rfl (by decide) rfl ?_
      simp only [List.set_cons_succ, List.set_cons_zero]
      refine g_iconst (pc := 7) dL_exit_7 ?_
      refine g_iret (pc := 8) rfl dL_exit_8 (fun h => h) ?_
      exact pW_1 (k := 1) hc (by decide) rfl
    · refine GX.catch (E := "java/lang/IllegalStateException") (nm := "java/lang/IllegalStateException") [(0, 5, 6, 16)] (0, 5, 9, 20) [] (i := 2) rfl (fun z h => by
        simp only [List.mem_cons, List.not_mem_nil, or_false] at h
        rcases h with rfl
        · exact ⟨by decide, _, cl_L_16, by decide +kernel⟩) (by decide) (by decide) cl_L_20 (by decide +kernel) dL_exit_9 rfl (by decide) rfl ?_
      simp only [List.set_cons_succ, List.set_cons_zero]
      refine g_bipush (pc := 10) dL_exit_10 (by decide) ?_
      refine g_iret (pc := 12) rfl dL_exit_12 (fun h => h) ?_
      exact pW_1 (k := 2) hc (by decide) rfl
    · exfalso
      omega
set_option maxRecDepth 20000 in
set_option maxHeartbeats 400000 in
theorem t_L_marry {κ : KT} {δ o : DT} (hK : KInv κ) {p : Int} (h_p : -2147483648 ≤ p ∧ p < 2147483648) {g : Int} (h_g : -2147483648 ≤ g ∧ g < 2147483648) : GM M_L_marry false [vR 0, vI p, vI g] (cW κ δ o) 2 12 (dt (some (vI (if xc_ma (k_ms κ 0) p g = 0 then if ip (k_ms κ 0) p g = true then 0 else 4 else -(xc_ma (k_ms κ 0) p g)))) (cW (if xc_ma (k_ms κ 0) p g = 0 then k_setms (k_rem κ) 0 (s_mar (k_ms κ 0) p g) else κ) δ o)) := by
  show G _ none _ _ 0 [some (vR 0), some (vI p), some (vI g), none] [] _ _ _ _
  have hr9 : 0 ≤ xc_ma (k_ms κ 0) p g ∧ xc_ma (k_ms κ 0) p g ≤ 2 := by unfold xc_ma; (repeat' split) <;> omega
  refine g_aload_n (i := 0) (pc := 0) dL_marry_0 rfl rfl ?_
  refine g_iload_n (i := 1) (pc := 1) dL_marry_1 rfl rfl ?_
  refine g_iload_n (i := 2) (pc := 2) dL_marry_2 rfl rfl ?_
  refine g_callV (pc := 3) (as := [vI p, vI g]) (bc' := 2) (bs' := 12) okV_X3_marry rfl l_L_29 dL_marry_3 c_0 hc_3 rfl (Nat.le_of_ble_eq_true rfl) (by decide) (Nat.le_of_ble_eq_true rfl) ⟨Nat.le_refl _, Nat.le_refl _⟩ (t_X3_marry hK h_p h_g) (fun h => nomatch h) (fun r w' h => ?_) (fun E w' h => ?_)
  · obtain ⟨h1, h2⟩ := h
    subst h2
    obtain ⟨hc, rfl⟩ := xR_i h1
    simp only [Option.toList, List.cons_append, List.nil_append]
    refine g_iret (pc := 6) rfl dL_marry_6 (fun h => h) ?_
    exact pW_0 hc rfl
  · obtain ⟨h1, h2⟩ := h
    subst h2
    rcases xR_e h1 with ⟨hc, rfl⟩ | ⟨hc, rfl⟩ | ⟨hc0, hc1, hc2, rfl⟩
    · refine GX.catch (E := "java/lang/IndexOutOfBoundsException") (nm := "java/lang/IndexOutOfBoundsException") [] (0, 6, 7, 16) [(0, 6, 10, 20)] (i := 3) rfl (fun z h => nomatch h) (by decide) (by decide) cl_L_16 (by decide +kernel) dL_marry_7 rfl (by decide) rfl ?_
      simp only [List.set_cons_succ, List.set_cons_zero]
      refine g_iconst (pc := 8) dL_marry_8 ?_
      refine g_iret (pc := 9) rfl dL_marry_9 (fun h => h) ?_
      exact pW_1 (k := 1) hc (by decide) rfl
    · refine GX.catch (E := "java/lang/IllegalStateException") (nm := "java/lang/IllegalStateException") [(0, 6, 7, 16)] (0, 6, 10, 20) [] (i := 3) rfl (fun z h => by
        simp only [List.mem_cons, List.not_mem_nil, or_false] at h
        rcases h with rfl
        · exact ⟨by decide, _, cl_L_16, by decide +kernel⟩) (by decide) (by decide) cl_L_20 (by decide +kernel) dL_marry_10 rfl (by decide) rfl ?_
      simp only [List.set_cons_succ, List.set_cons_zero]
      refine g_bipush (pc := 11) dL_marry_11 (by decide) ?_
      refine g_iret (pc := 13) rfl dL_marry_13 (fun h => h) ?_
      exact pW_1 (k := 2) hc (by decide) rfl
    · exfalso
      omega
set_option maxRecDepth 20000 in
set_option maxHeartbeats 400000 in
theorem t_L_tear {κ : KT} {δ o : DT} (hK : KInv κ) {p : Int} (h_p : -2147483648 ≤ p ∧ p < 2147483648) {g : Int} (h_g : -2147483648 ≤ g ∧ g < 2147483648) : GM M_L_tear false [vR 0, vI p, vI g] (cW κ δ o) 2 12 (dt (some (vI (if xc_te (k_ms κ 0) p g = 0 then ro (k_ms κ 0) p g else -(xc_te (k_ms κ 0) p g)))) (cW (if xc_te (k_ms κ 0) p g = 0 then k_setms (k_rem κ) 0 (s_torn (k_ms κ 0) p g) else κ) δ o)) := by
  show G _ none _ _ 0 [some (vR 0), some (vI p), some (vI g), none] [] _ _ _ _
  have hr9 : 0 ≤ xc_te (k_ms κ 0) p g ∧ xc_te (k_ms κ 0) p g ≤ 2 := by unfold xc_te; (repeat' split) <;> omega
  refine g_aload_n (i := 0) (pc := 0) dL_tear_0 rfl rfl ?_
  refine g_iload_n (i := 1) (pc := 1) dL_tear_1 rfl rfl ?_
  refine g_iload_n (i := 2) (pc := 2) dL_tear_2 rfl rfl ?_
  refine g_callV (pc := 3) (as := [vI p, vI g]) (bc' := 2) (bs' := 12) okV_X3_tear rfl l_L_33 dL_tear_3 c_0 hc_3 rfl (Nat.le_of_ble_eq_true rfl) (by decide) (Nat.le_of_ble_eq_true rfl) ⟨Nat.le_refl _, Nat.le_refl _⟩ (t_X3_tear hK h_p h_g) (fun h => nomatch h) (fun r w' h => ?_) (fun E w' h => ?_)
  · obtain ⟨h1, h2⟩ := h
    subst h2
    obtain ⟨hc, rfl⟩ := xR_i h1
    simp only [Option.toList, List.cons_append, List.nil_append]
    refine g_iret (pc := 6) rfl dL_tear_6 (fun h => h) ?_
    exact pW_0 hc rfl
  · obtain ⟨h1, h2⟩ := h
    subst h2
    rcases xR_e h1 with ⟨hc, rfl⟩ | ⟨hc, rfl⟩ | ⟨hc0, hc1, hc2, rfl⟩
    · refine GX.catch (E := "java/lang/IndexOutOfBoundsException") (nm := "java/lang/IndexOutOfBoundsException") [] (0, 6, 7, 16) [(0, 6, 10, 20)] (i := 3) rfl (fun z h => nomatch h) (by decide) (by decide) cl_L_16 (by decide +kernel) dL_tear_7 rfl (by decide) rfl ?_
      simp only [List.set_cons_succ, List.set_cons_zero]
      refine g_iconst (pc := 8) dL_tear_8 ?_
      refine g_iret (pc := 9) rfl dL_tear_9 (fun h => h) ?_
      exact pW_1 (k := 1) hc (by decide) rfl
    · refine GX.catch (E := "java/lang/IllegalStateException") (nm := "java/lang/IllegalStateException") [(0, 6, 7, 16)] (0, 6, 10, 20) [] (i := 3) rfl (fun z h => by
        simp only [List.mem_cons, List.not_mem_nil, or_false] at h
        rcases h with rfl
        · exact ⟨by decide, _, cl_L_16, by decide +kernel⟩) (by decide) (by decide) cl_L_20 (by decide +kernel) dL_tear_10 rfl (by decide) rfl ?_
      simp only [List.set_cons_succ, List.set_cons_zero]
      refine g_bipush (pc := 11) dL_tear_11 (by decide) ?_
      refine g_iret (pc := 13) rfl dL_tear_13 (fun h => h) ?_
      exact pW_1 (k := 2) hc (by decide) rfl
    · exfalso
      omega
end MW
