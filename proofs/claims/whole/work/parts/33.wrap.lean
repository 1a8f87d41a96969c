/-! THE LAW'S OWN CALLS, each with its catches (printed by wip/whole/wrap.py, but for the first rows) -/
section MW
def pX (c v : Int) (κ : KT) (δ : DT) (o : Nat → Int) : (Option MV) ⊕ String → List MC → Prop := fun r w' => r = .inl (some (vI c)) ∧ ∃ τ : SG, Inv τ ∧ w' = cW (k_setms κ 1 τ) δ (if c = 0 then va_up o 0 (wr v) else o)
def pD (c v : Int) (κ1 κ : KT) (δ : DT) (o : Nat → Int) : (Option MV) ⊕ String → List MC → Prop := fun r w' => r = .inl (some (vI c)) ∧ w' = cW (if c = 0 then κ1 else κ) δ (if c = 0 then va_up o 0 (wr v) else o)
theorem xR_i {c v : Int} {r : Option MV} {E1 E2 E3 : String} (h : Sum.inl r = xR c v E1 E2 E3) : c = 0 ∧ r = some (vI v) := by
  unfold xR at h
  by_cases q : c = 0
  · rw [if_pos q] at h
    exact ⟨q, Sum.inl.inj h⟩
  · rw [if_neg q] at h
    (repeat' split at h) <;> cases h
theorem xR_e {c v : Int} {E E1 E2 E3 : String} (h : Sum.inr E = xR c v E1 E2 E3) : (c = 1 ∧ E = E1) ∨ (c = 2 ∧ E = E2) ∨ (c ≠ 0 ∧ c ≠ 1 ∧ c ≠ 2 ∧ E = E3) := by
  unfold xR at h
  by_cases q0 : c = 0
  · rw [if_pos q0] at h
    cases h
  · rw [if_neg q0] at h
    by_cases q1 : c = 1
    · rw [if_pos q1] at h
      exact Or.inl ⟨q1, Sum.inr.inj h⟩
    · rw [if_neg q1] at h
      by_cases q2 : c = 2
      · rw [if_pos q2] at h
        exact Or.inr (Or.inl ⟨q2, Sum.inr.inj h⟩)
      · rw [if_neg q2] at h
        exact Or.inr (Or.inr ⟨q0, q1, q2, Sum.inr.inj h⟩)
theorem pD_0 {c v : Int} {κ1 κ κ' : KT} {δ : DT} {o : Nat → Int} {w : List MC} (hc : c = 0) (hk : κ' = if c = 0 then κ1 else κ) (hw : w = cW κ' δ (va_up o 0 (wr v))) : pD c v κ1 κ δ o (.inl (some (vI 0))) w :=
  ⟨by rw [hc], by rw [hw, hk]; exact congrArg (fun z => cW _ δ z) (if_pos hc).symm⟩
theorem pD_1 {c v k : Int} {κ1 κ κ' : KT} {δ : DT} {o : Nat → Int} {w : List MC} (hc : c = k) (h0 : k ≠ 0) (hk : κ' = if c = 0 then κ1 else κ) (hw : w = cW κ' δ o) : pD c v κ1 κ δ o (.inl (some (vI k))) w :=
  ⟨by rw [hc], by rw [hw, hk]; exact congrArg (fun z => cW _ δ z) (if_neg (by omega)).symm⟩
theorem pX_0 {c v : Int} {κ : KT} {δ : DT} {o : Nat → Int} {w : List MC} {τ : SG} (hi : Inv τ) (hc : c = 0) (hw : w = cW (k_setms κ 1 τ) δ (va_up o 0 (wr v))) : pX c v κ δ o (.inl (some (vI 0))) w :=
  ⟨by rw [hc], τ, hi, by rw [hw]; exact congrArg (fun z => cW _ δ z) (if_pos hc).symm⟩
theorem pX_1 {c v k : Int} {κ : KT} {δ : DT} {o : Nat → Int} {w : List MC} {τ : SG} (hi : Inv τ) (hc : c = k) (h0 : k ≠ 0) (hw : w = cW (k_setms κ 1 τ) δ o) : pX c v κ δ o (.inl (some (vI k))) w :=
  ⟨by rw [hc], τ, hi, by rw [hw]; exact congrArg (fun z => cW _ δ z) (if_neg (by omega)).symm⟩
section
variable {M : MT} {scr : Option (Nat × (Nat → Int))} {al alE : Bool} {pc : Nat} {L : List (Option MV)} {S : List MV} {w w1 : List MC} {bc bs : Nat} {Q : (Option MV) ⊕ String → List MC → Prop}
theorem GX.catchW {E nm : String} (pre : List (Nat × Nat × Nat × Nat)) (x : Nat × Nat × Nat × Nat) (suf : List (Nat × Nat × Nat × Nat)) {i : Nat} (hh : mH M = pre ++ x :: suf) (hpass : ∀ z ∈ pre, z.2.2.2 ≠ 0 ∧ ∃ n9 : String, Cond.classLink (mY M).cls z.2.2.2 n9 ∈ g_WS ∧ (E, n9) ∈ g_ncs) (hx : x.1 ≤ pc ∧ pc < x.2.1) (h0 : x.2.2.2 ≠ 0) (hlink : Cond.classLink (mY M).cls x.2.2.2 nm ∈ g_WS) (hc : (E, nm) ∈ g_csts)
    (hd : decode (mC M) x.2.2.1 = .ok (.astore i, 2)) (hn : i < mL M) (hk : g_nl L i = true) (kk : G M scr false alE (x.2.2.1 + 2) (L.set i none) [] w bc bs Q) : GX M scr alE pc L S E w bc bs Q := by
  intro p l e R s m args below meth c D cA ad base A H locs cells slots mc ms ls q ce fx dy hl hce hcv hcl
  obtain ⟨f1, f2, f3, f4, f5, f6, f7, f8, f9, f10, f11, f12, f13, f14⟩ := id fx
  have hsp : c.exceptionTable.toList = tableOf pre ++ (⟨x.1, x.2.1, x.2.2.1, x.2.2.2⟩ : ExceptionTableEntry) :: tableOf suf := by rw [f8, hh]; simp [tableOf]
  refine vx_catch (E := E) (name := nm) f9 (tableOf pre) ⟨x.1, x.2.1, x.2.2.1, x.2.2.2⟩ (tableOf suf) hsp (fun z hz => ?_) ?_ h0 (f10 _ hlink) (va_Nw.use rfl (f13.2.2.2.1 _ hc)) hce hcv hcl ?_
  · unfold tableOf at hz
    obtain ⟨y, hy, rfl⟩ := List.mem_map.mp hz
    obtain ⟨a1, n9, a2, a3⟩ := hpass y hy
    exact Or.inr ⟨a1, n9, f10 _ a2, f13.2.2.2.2.2.2.1 _ a3⟩
  · simp [covers, hx.1, hx.2]
  · refine lv_astore f1 f3 hd hl hn rfl (fun ls' hl' => ?_)
    refine kk p l e R s m args below meth c D cA ad base A H locs cells slots mc ms ls' fx dy (g_keep hl' (fun q9 hq9 => ?_))
    have h7 := g_set1 (ad := ad) (x := vR q) hk q9
    refine List.mem_cons_of_mem _ ?_
    obtain ⟨j, v, b1, b2⟩ := g_L_mem.mp hq9
    by_cases hj : i = j
    · subst hj
      by_cases hl9 : i < L.length
      · rw [List.getElem?_set_self hl9] at b1; cases b1
      · rw [List.getElem?_eq_none (by simp; omega)] at b1; cases b1
    · rw [List.getElem?_set_ne hj] at b1
      have h8 : q9 ∈ g_L ad 0 (L.set i (some (vR q))) := g_L_mem.mpr ⟨j, v, by rw [List.getElem?_set_ne hj]; exact b1, b2⟩
      rcases List.mem_cons.mp (h7 h8) with h6 | h6
      · rw [b2] at h6
        exact absurd (congrArg Prod.fst h6).symm (by show ¬ i = 0 + j; omega)
      · exact h6
end
set_option maxRecDepth 20000 in
set_option maxHeartbeats 400000 in
theorem t_L_append {κ : KT} {δ : DT} {o : Nat → Int} (hK : KInv κ) {x : Int} (h_x : -2147483648 ≤ x ∧ x < 2147483648) : GM M_L_append false [vR 0, vI x, vR 87] (cW κ δ o) 2 12 (pD (xc_app κ x) (k_ln κ + 1) (xk_app κ x) κ δ o) := by
  show G _ none _ _ 0 [some (vR 0), some (vI x), some (vR 87), none] [] _ _ _ _
  have hr9 : 0 ≤ xc_app κ x ∧ xc_app κ x ≤ 2 := by unfold xc_app; (repeat' split) <;> omega
  refine g_aload_n (i := 2) (pc := 0) dL_append_0 rfl rfl ?_
  refine g_iconst (pc := 1) dL_append_1 ?_
  refine g_aload_n (i := 0) (pc := 2) dL_append_2 rfl rfl ?_
  refine g_iload_n (i := 1) (pc := 3) dL_append_3 rfl rfl ?_
  refine g_callV (pc := 4) (as := [vI x]) (bc' := 2) (bs' := 12) okV_X3_append rfl l_L_7 dL_append_4 c_0 hc_3 rfl (Nat.le_of_ble_eq_true rfl) (by decide) (Nat.le_of_ble_eq_true rfl) ⟨Nat.le_refl _, Nat.le_refl _⟩ (t_X3_append hK h_x) (fun h => nomatch h) (fun r w' h => ?_) (fun E w' h => ?_)
  · obtain ⟨h1, h2⟩ := h
    subst h2
    obtain ⟨hc, rfl⟩ := xR_i h1
    simp only [Option.toList, List.cons_append, List.nil_append]
    refine g_wr ?_
    refine g_i2l (pc := 7) dL_append_7 (wr_rng _) ?_
    refine g_last (pc := 8) dL_append_8 c_87 (by decide) ?_
    refine G.eqw w_o ?_
    refine g_goto (tgt := 18) (pc := 9) dL_append_9 (by decide) ?_
    refine g_iconst (pc := 18) dL_append_18 ?_
    refine g_iret (pc := 19) rfl dL_append_19 (fun h => h) ?_
    exact pD_0 hc rfl rfl
  · obtain ⟨h1, h2⟩ := h
    subst h2
    rcases xR_e h1 with ⟨hc, rfl⟩ | ⟨hc, rfl⟩ | ⟨hc0, hc1, hc2, rfl⟩
    · refine GX.catch (E := "java/lang/IllegalArgumentException") (nm := "java/lang/IllegalArgumentException") [] (0, 9, 12, 13) [(0, 9, 15, 15)] (i := 3) rfl (fun z h => nomatch h) (by decide) (by decide) cl_L_13 (by decide +kernel) dL_append_12 rfl (by decide) rfl ?_
      simp only [List.set_cons_succ, List.set_cons_zero]
      refine g_iconst (pc := 13) dL_append_13 ?_
      refine g_iret (pc := 14) rfl dL_append_14 (fun h => h) ?_
      exact pD_1 (k := 1) hc (by decide) rfl rfl
    · refine GX.catch (E := "java/lang/IllegalStateException") (nm := "java/lang/IllegalStateException") [(0, 9, 12, 13)] (0, 9, 15, 15) [] (i := 3) rfl (fun z h => by
        simp only [List.mem_cons, List.not_mem_nil, or_false] at h
        rcases h with rfl
        · exact ⟨by decide, _, cl_L_13, by decide +kernel⟩) (by decide) (by decide) cl_L_15 (by decide +kernel) dL_append_15 rfl (by decide) rfl ?_
      simp only [List.set_cons_succ, List.set_cons_zero]
      refine g_iconst (pc := 16) dL_append_16 ?_
      refine g_iret (pc := 17) rfl dL_append_17 (fun h => h) ?_
      exact pD_1 (k := 2) hc (by decide) rfl rfl
    · exfalso
      omega
set_option maxRecDepth 20000 in
set_option maxHeartbeats 400000 in
theorem t_L_load {κ : KT} {δ : DT} {o : Nat → Int} (hK : KInv κ)  : GM M_L_load false [vR 0, vR 87] (cW κ δ o) 2 12 (pD (xc_ld κ) ((ldS (k_sg κ) (k_ln κ) (k_ln κ - 1).toNat).2) (xk_ld κ) κ δ o) := by
  show G _ none _ _ 0 [some (vR 0), some (vR 87), none] [] _ _ _ _
  have hr9 : 0 ≤ xc_ld κ ∧ xc_ld κ ≤ 1 := by unfold xc_ld; (repeat' split) <;> omega
  refine g_aload_n (i := 1) (pc := 0) dL_load_0 rfl rfl ?_
  refine g_iconst (pc := 1) dL_load_1 ?_
  refine g_aload_n (i := 0) (pc := 2) dL_load_2 rfl rfl ?_
  refine g_callV (pc := 3) (as := []) (bc' := 2) (bs' := 12) okV_X3_load rfl l_L_17 dL_load_3 c_0 hc_3 rfl (Nat.le_of_ble_eq_true rfl) (by decide) (Nat.le_of_ble_eq_true rfl) ⟨Nat.le_refl _, Nat.le_refl _⟩ (t_X3_load hK) (fun h => nomatch h) (fun r w' h => ?_) (fun E w' h => ?_)
  · obtain ⟨h1, h2⟩ := h
    subst h2
    obtain ⟨hc, rfl⟩ := xR_i h1
    simp only [Option.toList, List.cons_append, List.nil_append]
    refine g_wr ?_
    refine g_i2l (pc := 6) dL_load_6 (wr_rng _) ?_
    refine g_last (pc := 7) dL_load_7 c_87 (by decide) ?_
    refine G.eqw w_o ?_
    refine g_goto (tgt := 14) (pc := 8) dL_load_8 (by decide) ?_
    refine g_iconst (pc := 14) dL_load_14 ?_
    refine g_iret (pc := 15) rfl dL_load_15 (fun h => h) ?_
    exact pD_0 hc rfl rfl
  · obtain ⟨h1, h2⟩ := h
    subst h2
    rcases xR_e h1 with ⟨hc, rfl⟩ | ⟨hc, rfl⟩ | ⟨hc0, hc1, hc2, rfl⟩
    · refine GX.catch (E := "java/lang/IllegalStateException") (nm := "java/lang/IllegalStateException") [] (0, 8, 11, 15) [] (i := 2) rfl (fun z h => nomatch h) (by decide) (by decide) cl_L_15 (by decide +kernel) dL_load_11 rfl (by decide) rfl ?_
      simp only [List.set_cons_succ, List.set_cons_zero]
      refine g_iconst (pc := 12) dL_load_12 ?_
      refine g_iret (pc := 13) rfl dL_load_13 (fun h => h) ?_
      exact pD_1 (k := 1) hc (by decide) rfl rfl
    · exfalso
      omega
    · exfalso
      omega
set_option maxRecDepth 20000 in
set_option maxHeartbeats 400000 in
theorem t_L_about {κ : KT} {δ : DT} {o : Nat → Int} (hK : KInv κ) {x : Int} (h_x : -2147483648 ≤ x ∧ x < 2147483648) : GM M_L_about false [vR 0, vI x, vR 87] (cW κ δ o) 2 12 (pD (xc_ab x) (ab (k_ms κ 0) x) (κ) κ δ o) := by
  show G _ none _ _ 0 [some (vR 0), some (vI x), some (vR 87), none] [] _ _ _ _
  have hr9 : 0 ≤ xc_ab x ∧ xc_ab x ≤ 1 := by unfold xc_ab; (repeat' split) <;> omega
  refine g_aload_n (i := 2) (pc := 0) dL_about_0 rfl rfl ?_
  refine g_iconst (pc := 1) dL_about_1 ?_
  refine g_aload_n (i := 0) (pc := 2) dL_about_2 rfl rfl ?_
  refine g_iload_n (i := 1) (pc := 3) dL_about_3 rfl rfl ?_
  refine g_callV (pc := 4) (as := [vI x]) (bc' := 2) (bs' := 12) okV_X3_about rfl l_L_21 dL_about_4 c_0 hc_3 rfl (Nat.le_of_ble_eq_true rfl) (by decide) (Nat.le_of_ble_eq_true rfl) ⟨Nat.le_refl _, Nat.le_refl _⟩ (t_X3_about hK h_x) (fun h => nomatch h) (fun r w' h => ?_) (fun E w' h => ?_)
  · obtain ⟨h1, h2⟩ := h
    subst h2
    obtain ⟨hc, rfl⟩ := xR_i h1
    simp only [Option.toList, List.cons_append, List.nil_append]
    refine g_wr ?_
    refine g_i2l (pc := 7) dL_about_7 (wr_rng _) ?_
    refine g_last (pc := 8) dL_about_8 c_87 (by decide) ?_
    refine G.eqw w_o ?_
    refine g_goto (tgt := 15) (pc := 9) dL_about_9 (by decide) ?_
    refine g_iconst (pc := 15) dL_about_15 ?_
    refine g_iret (pc := 16) rfl dL_about_16 (fun h => h) ?_
    exact pD_0 hc (by split <;> rfl) rfl
  · obtain ⟨h1, h2⟩ := h
    subst h2
    rcases xR_e h1 with ⟨hc, rfl⟩ | ⟨hc, rfl⟩ | ⟨hc0, hc1, hc2, rfl⟩
    · refine GX.catch (E := "java/lang/IllegalArgumentException") (nm := "java/lang/IllegalArgumentException") [] (0, 9, 12, 13) [] (i := 3) rfl (fun z h => nomatch h) (by decide) (by decide) cl_L_13 (by decide +kernel) dL_about_12 rfl (by decide) rfl ?_
      simp only [List.set_cons_succ, List.set_cons_zero]
      refine g_iconst (pc := 13) dL_about_13 ?_
      refine g_iret (pc := 14) rfl dL_about_14 (fun h => h) ?_
      exact pD_1 (k := 1) hc (by decide) (by split <;> rfl) rfl
    · exfalso
      omega
    · exfalso
      omega
set_option maxRecDepth 20000 in
set_option maxHeartbeats 400000 in
theorem t_L_page {κ : KT} {δ : DT} {o : Nat → Int} (hK : KInv κ) {p : Int} (h_p : -2147483648 ≤ p ∧ p < 2147483648) {v : Int} (h_v : -2147483648 ≤ v ∧ v < 2147483648) {x : Int} (h_x : -2147483648 ≤ x ∧ x < 2147483648) : GM M_L_page false [vR 0, vI p, vI v, vI x, vR 87] (cW κ δ o) 2 12 (pD (xc_pg (k_ms κ 0) p v x) (pgv (k_ms κ 0) p v x) (κ) κ δ o) := by
  show G _ none _ _ 0 [some (vR 0), some (vI p), some (vI v), some (vI x), some (vR 87), none] [] _ _ _ _
  have hr9 : 0 ≤ xc_pg (k_ms κ 0) p v x ∧ xc_pg (k_ms κ 0) p v x ≤ 2 := by unfold xc_pg; (repeat' split) <;> omega
  refine g_aload (pc := 0) dL_page_0 rfl ?_
  refine g_iconst (pc := 2) dL_page_2 ?_
  refine g_aload_n (i := 0) (pc := 3) dL_page_3 rfl rfl ?_
  refine g_iload_n (i := 1) (pc := 4) dL_page_4 rfl rfl ?_
  refine g_iload_n (i := 2) (pc := 5) dL_page_5 rfl rfl ?_
  refine g_iload_n (i := 3) (pc := 6) dL_page_6 rfl rfl ?_
  refine g_callV (pc := 7) (as := [vI p, vI v, vI x]) (bc' := 2) (bs' := 12) okV_X3_page rfl l_L_24 dL_page_7 c_0 hc_3 rfl (Nat.le_of_ble_eq_true rfl) (by decide) (Nat.le_of_ble_eq_true rfl) ⟨Nat.le_refl _, Nat.le_refl _⟩ (t_X3_page hK h_p h_v h_x) (fun h => nomatch h) (fun r w' h => ?_) (fun E w' h => ?_)
  · obtain ⟨h1, h2⟩ := h
    subst h2
    obtain ⟨hc, rfl⟩ := xR_i h1
    simp only [Option.toList, List.cons_append, List.nil_append]
    refine g_wr ?_
    refine g_i2l (pc := 10) dL_page_10 (wr_rng _) ?_
    refine g_last (pc := 11) dL_page_11 c_87 (by decide) ?_
    refine G.eqw w_o ?_
    refine g_goto (tgt := 23) (pc := 12) dL_page_12 (by decide) ?_
    refine g_iconst (pc := 23) dL_page_23 ?_
    refine g_iret (pc := 24) rfl dL_page_24 (fun h => h) ?_
    exact pD_0 hc (by split <;> rfl) rfl
  · obtain ⟨h1, h2⟩ := h
    subst h2
    rcases xR_e h1 with ⟨hc, rfl⟩ | ⟨hc, rfl⟩ | ⟨hc0, hc1, hc2, rfl⟩
    · refine GX.catchW (E := "java/lang/IndexOutOfBoundsException") (nm := "java/lang/IndexOutOfBoundsException") [] (0, 12, 15, 28) [(0, 12, 19, 13)] (i := 5) rfl (fun z h => nomatch h) (by decide) (by decide) cl_L_28 (by decide +kernel) dL_page_15 (by decide) rfl ?_
      simp only [List.set_cons_succ, List.set_cons_zero]
      refine g_iconst (pc := 17) dL_page_17 ?_
      refine g_iret (pc := 18) rfl dL_page_18 (fun h => h) ?_
      exact pD_1 (k := 1) hc (by decide) (by split <;> rfl) rfl
    · refine GX.catchW (E := "java/lang/IllegalArgumentException") (nm := "java/lang/IllegalArgumentException") [(0, 12, 15, 28)] (0, 12, 19, 13) [] (i := 5) rfl (fun z h => by
        simp only [List.mem_cons, List.not_mem_nil, or_false] at h
        rcases h with rfl
        · exact ⟨by decide, _, cl_L_28, by decide +kernel⟩) (by decide) (by decide) cl_L_13 (by decide +kernel) dL_page_19 (by decide) rfl ?_
      simp only [List.set_cons_succ, List.set_cons_zero]
      refine g_iconst (pc := 21) dL_page_21 ?_
      refine g_iret (pc := 22) rfl dL_page_22 (fun h => h) ?_
      exact pD_1 (k := 2) hc (by decide) (by split <;> rfl) rfl
    · exfalso
      omega
set_option maxRecDepth 20000 in
set_option maxHeartbeats 400000 in
theorem t_L_user {κ : KT} {δ : DT} {o : Nat → Int} (hK : KInv κ) {f : Int} (h_f : -2147483648 ≤ f ∧ f < 2147483648) {i : Int} (h_i : -2147483648 ≤ i ∧ i < 2147483648) : GM M_L_user false [vR 0, vI f, vI i, vR 87] (cW κ δ o) 2 12 (pD (xc_us f i) (uat (k_ms κ 0) f i) (κ) κ δ o) := by
  show G _ none _ _ 0 [some (vR 0), some (vI f), some (vI i), some (vR 87), none] [] _ _ _ _
  have hr9 : 0 ≤ xc_us f i ∧ xc_us f i ≤ 2 := by unfold xc_us; (repeat' split) <;> omega
  refine g_aload_n (i := 3) (pc := 0) dL_user_0 rfl rfl ?_
  refine g_iconst (pc := 1) dL_user_1 ?_
  refine g_aload_n (i := 0) (pc := 2) dL_user_2 rfl rfl ?_
  refine g_iload_n (i := 1) (pc := 3) dL_user_3 rfl rfl ?_
  refine g_iload_n (i := 2) (pc := 4) dL_user_4 rfl rfl ?_
  refine g_callV (pc := 5) (as := [vI f, vI i]) (bc' := 2) (bs' := 12) okV_X3_user rfl l_L_30 dL_user_5 c_0 hc_3 rfl (Nat.le_of_ble_eq_true rfl) (by decide) (Nat.le_of_ble_eq_true rfl) ⟨Nat.le_refl _, Nat.le_refl _⟩ (t_X3_user hK h_f h_i) (fun h => nomatch h) (fun r w' h => ?_) (fun E w' h => ?_)
  · obtain ⟨h1, h2⟩ := h
    subst h2
    obtain ⟨hc, rfl⟩ := xR_i h1
    simp only [Option.toList, List.cons_append, List.nil_append]
    refine g_wr ?_
    refine g_i2l (pc := 8) dL_user_8 (wr_rng _) ?_
    refine g_last (pc := 9) dL_user_9 c_87 (by decide) ?_
    refine G.eqw w_o ?_
    refine g_goto (tgt := 21) (pc := 10) dL_user_10 (by decide) ?_
    refine g_iconst (pc := 21) dL_user_21 ?_
    refine g_iret (pc := 22) rfl dL_user_22 (fun h => h) ?_
    exact pD_0 hc (by split <;> rfl) rfl
  · obtain ⟨h1, h2⟩ := h
    subst h2
    rcases xR_e h1 with ⟨hc, rfl⟩ | ⟨hc, rfl⟩ | ⟨hc0, hc1, hc2, rfl⟩
    · refine GX.catchW (E := "java/lang/IndexOutOfBoundsException") (nm := "java/lang/IndexOutOfBoundsException") [] (0, 10, 13, 28) [(0, 10, 17, 13)] (i := 4) rfl (fun z h => nomatch h) (by decide) (by decide) cl_L_28 (by decide +kernel) dL_user_13 (by decide) rfl ?_
      simp only [List.set_cons_succ, List.set_cons_zero]
      refine g_iconst (pc := 15) dL_user_15 ?_
      refine g_iret (pc := 16) rfl dL_user_16 (fun h => h) ?_
      exact pD_1 (k := 1) hc (by decide) (by split <;> rfl) rfl
    · refine GX.catchW (E := "java/lang/IllegalArgumentException") (nm := "java/lang/IllegalArgumentException") [(0, 10, 13, 28)] (0, 10, 17, 13) [] (i := 4) rfl (fun z h => by
        simp only [List.mem_cons, List.not_mem_nil, or_false] at h
        rcases h with rfl
        · exact ⟨by decide, _, cl_L_28, by decide +kernel⟩) (by decide) (by decide) cl_L_13 (by decide +kernel) dL_user_17 (by decide) rfl ?_
      simp only [List.set_cons_succ, List.set_cons_zero]
      refine g_iconst (pc := 19) dL_user_19 ?_
      refine g_iret (pc := 20) rfl dL_user_20 (fun h => h) ?_
      exact pD_1 (k := 2) hc (by decide) (by split <;> rfl) rfl
    · exfalso
      omega
set_option maxRecDepth 20000 in
set_option maxHeartbeats 400000 in
theorem t_L_group {κ : KT} {δ : DT} {o : Nat → Int} (hK : KInv κ) {p : Int} (h_p : -2147483648 ≤ p ∧ p < 2147483648) {g : Int} (h_g : -2147483648 ≤ g ∧ g < 2147483648) {x : Int} (h_x : -2147483648 ≤ x ∧ x < 2147483648) : GM M_L_group false [vR 0, vI p, vI g, vI x, vR 87] (cW κ δ o) 2 12 (pD (xc_gr (k_ms κ 0) p g x) (grv (k_ms κ 0) p g x) (κ) κ δ o) := by
  show G _ none _ _ 0 [some (vR 0), some (vI p), some (vI g), some (vI x), some (vR 87), none] [] _ _ _ _
  have hr9 : 0 ≤ xc_gr (k_ms κ 0) p g x ∧ xc_gr (k_ms κ 0) p g x ≤ 2 := by unfold xc_gr; (repeat' split) <;> omega
  refine g_aload (pc := 0) dL_group_0 rfl ?_
  refine g_iconst (pc := 2) dL_group_2 ?_
  refine g_aload_n (i := 0) (pc := 3) dL_group_3 rfl rfl ?_
  refine g_iload_n (i := 1) (pc := 4) dL_group_4 rfl rfl ?_
  refine g_iload_n (i := 2) (pc := 5) dL_group_5 rfl rfl ?_
  refine g_iload_n (i := 3) (pc := 6) dL_group_6 rfl rfl ?_
  refine g_callV (pc := 7) (as := [vI p, vI g, vI x]) (bc' := 2) (bs' := 12) okV_X3_group rfl l_L_34 dL_group_7 c_0 hc_3 rfl (Nat.le_of_ble_eq_true rfl) (by decide) (Nat.le_of_ble_eq_true rfl) ⟨Nat.le_refl _, Nat.le_refl _⟩ (t_X3_group hK h_p h_g h_x) (fun h => nomatch h) (fun r w' h => ?_) (fun E w' h => ?_)
  · obtain ⟨h1, h2⟩ := h
    subst h2
    obtain ⟨hc, rfl⟩ := xR_i h1
    simp only [Option.toList, List.cons_append, List.nil_append]
    refine g_wr ?_
    refine g_i2l (pc := 10) dL_group_10 (wr_rng _) ?_
    refine g_last (pc := 11) dL_group_11 c_87 (by decide) ?_
    refine G.eqw w_o ?_
    refine g_goto (tgt := 23) (pc := 12) dL_group_12 (by decide) ?_
    refine g_iconst (pc := 23) dL_group_23 ?_
    refine g_iret (pc := 24) rfl dL_group_24 (fun h => h) ?_
    exact pD_0 hc (by split <;> rfl) rfl
  · obtain ⟨h1, h2⟩ := h
    subst h2
    rcases xR_e h1 with ⟨hc, rfl⟩ | ⟨hc, rfl⟩ | ⟨hc0, hc1, hc2, rfl⟩
    · refine GX.catchW (E := "java/lang/IndexOutOfBoundsException") (nm := "java/lang/IndexOutOfBoundsException") [] (0, 12, 15, 28) [(0, 12, 19, 13)] (i := 5) rfl (fun z h => nomatch h) (by decide) (by decide) cl_L_28 (by decide +kernel) dL_group_15 (by decide) rfl ?_
      simp only [List.set_cons_succ, List.set_cons_zero]
      refine g_iconst (pc := 17) dL_group_17 ?_
      refine g_iret (pc := 18) rfl dL_group_18 (fun h => h) ?_
      exact pD_1 (k := 1) hc (by decide) (by split <;> rfl) rfl
    · refine GX.catchW (E := "java/lang/IllegalArgumentException") (nm := "java/lang/IllegalArgumentException") [(0, 12, 15, 28)] (0, 12, 19, 13) [] (i := 5) rfl (fun z h => by
        simp only [List.mem_cons, List.not_mem_nil, or_false] at h
        rcases h with rfl
        · exact ⟨by decide, _, cl_L_28, by decide +kernel⟩) (by decide) (by decide) cl_L_13 (by decide +kernel) dL_group_19 (by decide) rfl ?_
      simp only [List.set_cons_succ, List.set_cons_zero]
      refine g_iconst (pc := 21) dL_group_21 ?_
      refine g_iret (pc := 22) rfl dL_group_22 (fun h => h) ?_
      exact pD_1 (k := 2) hc (by decide) (by split <;> rfl) rfl
    · exfalso
      omega
set_option maxRecDepth 20000 in
set_option maxHeartbeats 400000 in
theorem t_L_write {κ : KT} {δ : DT} {o : Nat → Int} (hK : KInv κ) {p : Int} (h_p : -2147483648 ≤ p ∧ p < 2147483648) {v : Int} (h_v : -2147483648 ≤ v ∧ v < 2147483648) {x : Int} (h_x : -2147483648 ≤ x ∧ x < 2147483648) : GM M_L_write false [vR 0, vI p, vI v, vI x, vR 87] (cW κ δ o) 2 12 (pD (xc_wr (k_ms κ 0) p v x) (oc (k_ms κ 0) p v) (k_setms (k_rem κ) 0 (s_wri (k_ms κ 0) p v x)) κ δ o) := by
  show G _ none _ _ 0 [some (vR 0), some (vI p), some (vI v), some (vI x), some (vR 87), none] [] _ _ _ _
  have hr9 : 0 ≤ xc_wr (k_ms κ 0) p v x ∧ xc_wr (k_ms κ 0) p v x ≤ 3 := by unfold xc_wr; (repeat' split) <;> omega
  refine g_aload (pc := 0) dL_write_0 rfl ?_
  refine g_iconst (pc := 2) dL_write_2 ?_
  refine g_aload_n (i := 0) (pc := 3) dL_write_3 rfl rfl ?_
  refine g_iload_n (i := 1) (pc := 4) dL_write_4 rfl rfl ?_
  refine g_iload_n (i := 2) (pc := 5) dL_write_5 rfl rfl ?_
  refine g_iload_n (i := 3) (pc := 6) dL_write_6 rfl rfl ?_
  refine g_callV (pc := 7) (as := [vI p, vI v, vI x]) (bc' := 2) (bs' := 12) okV_X3_write rfl l_L_37 dL_write_7 c_0 hc_3 rfl (Nat.le_of_ble_eq_true rfl) (by decide) (Nat.le_of_ble_eq_true rfl) ⟨Nat.le_refl _, Nat.le_refl _⟩ (t_X3_write hK h_p h_v h_x) (fun h => nomatch h) (fun r w' h => ?_) (fun E w' h => ?_)
  · obtain ⟨h1, h2⟩ := h
    subst h2
    obtain ⟨hc, rfl⟩ := xR_i h1
    simp only [Option.toList, List.cons_append, List.nil_append]
    refine g_wr ?_
    refine g_i2l (pc := 10) dL_write_10 (wr_rng _) ?_
    refine g_last (pc := 11) dL_write_11 c_87 (by decide) ?_
    refine G.eqw w_o ?_
    refine g_goto (tgt := 27) (pc := 12) dL_write_12 (by decide) ?_
    refine g_iconst (pc := 27) dL_write_27 ?_
    refine g_iret (pc := 28) rfl dL_write_28 (fun h => h) ?_
    exact pD_0 hc rfl rfl
  · obtain ⟨h1, h2⟩ := h
    subst h2
    rcases xR_e h1 with ⟨hc, rfl⟩ | ⟨hc, rfl⟩ | ⟨hc0, hc1, hc2, rfl⟩
    · refine GX.catchW (E := "java/lang/IndexOutOfBoundsException") (nm := "java/lang/IndexOutOfBoundsException") [] (0, 12, 15, 28) [(0, 12, 19, 13), (0, 12, 23, 15)] (i := 5) rfl (fun z h => nomatch h) (by decide) (by decide) cl_L_28 (by decide +kernel) dL_write_15 (by decide) rfl ?_
      simp only [List.set_cons_succ, List.set_cons_zero]
      refine g_iconst (pc := 17) dL_write_17 ?_
      refine g_iret (pc := 18) rfl dL_write_18 (fun h => h) ?_
      exact pD_1 (k := 1) hc (by decide) rfl rfl
    · refine GX.catchW (E := "java/lang/IllegalArgumentException") (nm := "java/lang/IllegalArgumentException") [(0, 12, 15, 28)] (0, 12, 19, 13) [(0, 12, 23, 15)] (i := 5) rfl (fun z h => by
        simp only [List.mem_cons, List.not_mem_nil, or_false] at h
        rcases h with rfl
        · exact ⟨by decide, _, cl_L_28, by decide +kernel⟩) (by decide) (by decide) cl_L_13 (by decide +kernel) dL_write_19 (by decide) rfl ?_
      simp only [List.set_cons_succ, List.set_cons_zero]
      refine g_iconst (pc := 21) dL_write_21 ?_
      refine g_iret (pc := 22) rfl dL_write_22 (fun h => h) ?_
      exact pD_1 (k := 2) hc (by decide) rfl rfl
    · refine GX.catchW (E := "java/lang/IllegalStateException") (nm := "java/lang/IllegalStateException") [(0, 12, 15, 28), (0, 12, 19, 13)] (0, 12, 23, 15) [] (i := 5) rfl (fun z h => by
        simp only [List.mem_cons, List.not_mem_nil, or_false] at h
        rcases h with rfl | rfl
        · exact ⟨by decide, _, cl_L_28, by decide +kernel⟩
        · exact ⟨by decide, _, cl_L_13, by decide +kernel⟩) (by decide) (by decide) cl_L_15 (by decide +kernel) dL_write_23 (by decide) rfl ?_
      simp only [List.set_cons_succ, List.set_cons_zero]
      refine g_iconst (pc := 25) dL_write_25 ?_
      refine g_iret (pc := 26) rfl dL_write_26 (fun h => h) ?_
      exact pD_1 (k := 3) (by omega) (by decide) rfl rfl
set_option maxRecDepth 20000 in
set_option maxHeartbeats 400000 in
theorem t_L_fork {κ : KT} {δ : DT} {o : Nat → Int} (hK : KInv κ) {p : Int} (h_p : -2147483648 ≤ p ∧ p < 2147483648) : GM M_L_fork false [vR 0, vI p, vR 87] (cW κ δ o) 2 12 (pD (xc_fk (k_ms κ 0) p) (lup (k_ms κ 0)) (k_setms (k_rem κ) 0 (s_for (k_ms κ 0) p)) κ δ o) := by
  show G _ none _ _ 0 [some (vR 0), some (vI p), some (vR 87), none] [] _ _ _ _
  have hr9 : 0 ≤ xc_fk (k_ms κ 0) p ∧ xc_fk (k_ms κ 0) p ≤ 2 := by unfold xc_fk; (repeat' split) <;> omega
  refine g_aload_n (i := 2) (pc := 0) dL_fork_0 rfl rfl ?_
  refine g_iconst (pc := 1) dL_fork_1 ?_
  refine g_aload_n (i := 0) (pc := 2) dL_fork_2 rfl rfl ?_
  refine g_iload_n (i := 1) (pc := 3) dL_fork_3 rfl rfl ?_
  refine g_callV (pc := 4) (as := [vI p]) (bc' := 2) (bs' := 12) okV_X3_fork rfl l_L_40 dL_fork_4 c_0 hc_3 rfl (Nat.le_of_ble_eq_true rfl) (by decide) (Nat.le_of_ble_eq_true rfl) ⟨Nat.le_refl _, Nat.le_refl _⟩ (t_X3_fork hK h_p) (fun h => nomatch h) (fun r w' h => ?_) (fun E w' h => ?_)
  · obtain ⟨h1, h2⟩ := h
    subst h2
    obtain ⟨hc, rfl⟩ := xR_i h1
    simp only [Option.toList, List.cons_append, List.nil_append]
    refine g_wr ?_
    refine g_i2l (pc := 7) dL_fork_7 (wr_rng _) ?_
    refine g_last (pc := 8) dL_fork_8 c_87 (by decide) ?_
    refine G.eqw w_o ?_
    refine g_goto (tgt := 18) (pc := 9) dL_fork_9 (by decide) ?_
    refine g_iconst (pc := 18) dL_fork_18 ?_
    refine g_iret (pc := 19) rfl dL_fork_19 (fun h => h) ?_
    exact pD_0 hc rfl rfl
  · obtain ⟨h1, h2⟩ := h
    subst h2
    rcases xR_e h1 with ⟨hc, rfl⟩ | ⟨hc, rfl⟩ | ⟨hc0, hc1, hc2, rfl⟩
    · refine GX.catch (E := "java/lang/IndexOutOfBoundsException") (nm := "java/lang/IndexOutOfBoundsException") [] (0, 9, 12, 28) [(0, 9, 15, 15)] (i := 3) rfl (fun z h => nomatch h) (by decide) (by decide) cl_L_28 (by decide +kernel) dL_fork_12 rfl (by decide) rfl ?_
      simp only [List.set_cons_succ, List.set_cons_zero]
      refine g_iconst (pc := 13) dL_fork_13 ?_
      refine g_iret (pc := 14) rfl dL_fork_14 (fun h => h) ?_
      exact pD_1 (k := 1) hc (by decide) rfl rfl
    · refine GX.catch (E := "java/lang/IllegalStateException") (nm := "java/lang/IllegalStateException") [(0, 9, 12, 28)] (0, 9, 15, 15) [] (i := 3) rfl (fun z h => by
        simp only [List.mem_cons, List.not_mem_nil, or_false] at h
        rcases h with rfl
        · exact ⟨by decide, _, cl_L_28, by decide +kernel⟩) (by decide) (by decide) cl_L_15 (by decide +kernel) dL_fork_15 rfl (by decide) rfl ?_
      simp only [List.set_cons_succ, List.set_cons_zero]
      refine g_iconst (pc := 16) dL_fork_16 ?_
      refine g_iret (pc := 17) rfl dL_fork_17 (fun h => h) ?_
      exact pD_1 (k := 2) hc (by decide) rfl rfl
    · exfalso
      omega
set_option maxRecDepth 20000 in
set_option maxHeartbeats 400000 in
theorem t_L_exit {κ : KT} {δ : DT} {o : Nat → Int} (hK : KInv κ) {p : Int} (h_p : -2147483648 ≤ p ∧ p < 2147483648) : GM M_L_exit false [vR 0, vI p, vR 87] (cW κ δ o) 2 12 (pD (xc_ex (k_ms κ 0) p) (nff (s_le (k_ms κ 0) p 16) - nff (k_ms κ 0)) (k_setms (k_rem κ) 0 (s_end (k_ms κ 0) p)) κ δ o) := by
  show G _ none _ _ 0 [some (vR 0), some (vI p), some (vR 87), none] [] _ _ _ _
  have hr9 : 0 ≤ xc_ex (k_ms κ 0) p ∧ xc_ex (k_ms κ 0) p ≤ 2 := by unfold xc_ex; (repeat' split) <;> omega
  refine g_aload_n (i := 2) (pc := 0) dL_exit_0 rfl rfl ?_
  refine g_iconst (pc := 1) dL_exit_1 ?_
  refine g_aload_n (i := 0) (pc := 2) dL_exit_2 rfl rfl ?_
  refine g_iload_n (i := 1) (pc := 3) dL_exit_3 rfl rfl ?_
  refine g_callV (pc := 4) (as := [vI p]) (bc' := 2) (bs' := 12) okV_X3_exit rfl l_L_43 dL_exit_4 c_0 hc_3 rfl (Nat.le_of_ble_eq_true rfl) (by decide) (Nat.le_of_ble_eq_true rfl) ⟨Nat.le_refl _, Nat.le_refl _⟩ (t_X3_exit hK h_p) (fun h => nomatch h) (fun r w' h => ?_) (fun E w' h => ?_)
  · obtain ⟨h1, h2⟩ := h
    subst h2
    obtain ⟨hc, rfl⟩ := xR_i h1
    simp only [Option.toList, List.cons_append, List.nil_append]
    refine g_wr ?_
    refine g_i2l (pc := 7) dL_exit_7 (wr_rng _) ?_
    refine g_last (pc := 8) dL_exit_8 c_87 (by decide) ?_
    refine G.eqw w_o ?_
    refine g_goto (tgt := 18) (pc := 9) dL_exit_9 (by decide) ?_
    refine g_iconst (pc := 18) dL_exit_18 ?_
    refine g_iret (pc := 19) rfl dL_exit_19 (fun h => h) ?_
    exact pD_0 hc rfl rfl
  · obtain ⟨h1, h2⟩ := h
    subst h2
    rcases xR_e h1 with ⟨hc, rfl⟩ | ⟨hc, rfl⟩ | ⟨hc0, hc1, hc2, rfl⟩
    · refine GX.catch (E := "java/lang/IndexOutOfBoundsException") (nm := "java/lang/IndexOutOfBoundsException") [] (0, 9, 12, 28) [(0, 9, 15, 15)] (i := 3) rfl (fun z h => nomatch h) (by decide) (by decide) cl_L_28 (by decide +kernel) dL_exit_12 rfl (by decide) rfl ?_
      simp only [List.set_cons_succ, List.set_cons_zero]
      refine g_iconst (pc := 13) dL_exit_13 ?_
      refine g_iret (pc := 14) rfl dL_exit_14 (fun h => h) ?_
      exact pD_1 (k := 1) hc (by decide) rfl rfl
    · refine GX.catch (E := "java/lang/IllegalStateException") (nm := "java/lang/IllegalStateException") [(0, 9, 12, 28)] (0, 9, 15, 15) [] (i := 3) rfl (fun z h => by
        simp only [List.mem_cons, List.not_mem_nil, or_false] at h
        rcases h with rfl
        · exact ⟨by decide, _, cl_L_28, by decide +kernel⟩) (by decide) (by decide) cl_L_15 (by decide +kernel) dL_exit_15 rfl (by decide) rfl ?_
      simp only [List.set_cons_succ, List.set_cons_zero]
      refine g_iconst (pc := 16) dL_exit_16 ?_
      refine g_iret (pc := 17) rfl dL_exit_17 (fun h => h) ?_
      exact pD_1 (k := 2) hc (by decide) rfl rfl
    · exfalso
      omega
set_option maxRecDepth 20000 in
set_option maxHeartbeats 400000 in
theorem t_L_marry {κ : KT} {δ : DT} {o : Nat → Int} (hK : KInv κ) {p : Int} (h_p : -2147483648 ≤ p ∧ p < 2147483648) {g : Int} (h_g : -2147483648 ≤ g ∧ g < 2147483648) : GM M_L_marry false [vR 0, vI p, vI g, vR 87] (cW κ δ o) 2 12 (pD (xc_ma (k_ms κ 0) p g) (if ip (k_ms κ 0) p g = true then 0 else 4) (k_setms (k_rem κ) 0 (s_mar (k_ms κ 0) p g)) κ δ o) := by
  show G _ none _ _ 0 [some (vR 0), some (vI p), some (vI g), some (vR 87), none] [] _ _ _ _
  have hr9 : 0 ≤ xc_ma (k_ms κ 0) p g ∧ xc_ma (k_ms κ 0) p g ≤ 2 := by unfold xc_ma; (repeat' split) <;> omega
  refine g_aload_n (i := 3) (pc := 0) dL_marry_0 rfl rfl ?_
  refine g_iconst (pc := 1) dL_marry_1 ?_
  refine g_aload_n (i := 0) (pc := 2) dL_marry_2 rfl rfl ?_
  refine g_iload_n (i := 1) (pc := 3) dL_marry_3 rfl rfl ?_
  refine g_iload_n (i := 2) (pc := 4) dL_marry_4 rfl rfl ?_
  refine g_callV (pc := 5) (as := [vI p, vI g]) (bc' := 2) (bs' := 12) okV_X3_marry rfl l_L_46 dL_marry_5 c_0 hc_3 rfl (Nat.le_of_ble_eq_true rfl) (by decide) (Nat.le_of_ble_eq_true rfl) ⟨Nat.le_refl _, Nat.le_refl _⟩ (t_X3_marry hK h_p h_g) (fun h => nomatch h) (fun r w' h => ?_) (fun E w' h => ?_)
  · obtain ⟨h1, h2⟩ := h
    subst h2
    obtain ⟨hc, rfl⟩ := xR_i h1
    simp only [Option.toList, List.cons_append, List.nil_append]
    refine g_wr ?_
    refine g_i2l (pc := 8) dL_marry_8 (wr_rng _) ?_
    refine g_last (pc := 9) dL_marry_9 c_87 (by decide) ?_
    refine G.eqw w_o ?_
    refine g_goto (tgt := 21) (pc := 10) dL_marry_10 (by decide) ?_
    refine g_iconst (pc := 21) dL_marry_21 ?_
    refine g_iret (pc := 22) rfl dL_marry_22 (fun h => h) ?_
    exact pD_0 hc rfl rfl
  · obtain ⟨h1, h2⟩ := h
    subst h2
    rcases xR_e h1 with ⟨hc, rfl⟩ | ⟨hc, rfl⟩ | ⟨hc0, hc1, hc2, rfl⟩
    · refine GX.catchW (E := "java/lang/IndexOutOfBoundsException") (nm := "java/lang/IndexOutOfBoundsException") [] (0, 10, 13, 28) [(0, 10, 17, 15)] (i := 4) rfl (fun z h => nomatch h) (by decide) (by decide) cl_L_28 (by decide +kernel) dL_marry_13 (by decide) rfl ?_
      simp only [List.set_cons_succ, List.set_cons_zero]
      refine g_iconst (pc := 15) dL_marry_15 ?_
      refine g_iret (pc := 16) rfl dL_marry_16 (fun h => h) ?_
      exact pD_1 (k := 1) hc (by decide) rfl rfl
    · refine GX.catchW (E := "java/lang/IllegalStateException") (nm := "java/lang/IllegalStateException") [(0, 10, 13, 28)] (0, 10, 17, 15) [] (i := 4) rfl (fun z h => by
        simp only [List.mem_cons, List.not_mem_nil, or_false] at h
        rcases h with rfl
        · exact ⟨by decide, _, cl_L_28, by decide +kernel⟩) (by decide) (by decide) cl_L_15 (by decide +kernel) dL_marry_17 (by decide) rfl ?_
      simp only [List.set_cons_succ, List.set_cons_zero]
      refine g_iconst (pc := 19) dL_marry_19 ?_
      refine g_iret (pc := 20) rfl dL_marry_20 (fun h => h) ?_
      exact pD_1 (k := 2) hc (by decide) rfl rfl
    · exfalso
      omega
set_option maxRecDepth 20000 in
set_option maxHeartbeats 400000 in
theorem t_L_tear {κ : KT} {δ : DT} {o : Nat → Int} (hK : KInv κ) {p : Int} (h_p : -2147483648 ≤ p ∧ p < 2147483648) {g : Int} (h_g : -2147483648 ≤ g ∧ g < 2147483648) : GM M_L_tear false [vR 0, vI p, vI g, vR 87] (cW κ δ o) 2 12 (pD (xc_te (k_ms κ 0) p g) (ro (k_ms κ 0) p g) (k_setms (k_rem κ) 0 (s_torn (k_ms κ 0) p g)) κ δ o) := by
  show G _ none _ _ 0 [some (vR 0), some (vI p), some (vI g), some (vR 87), none] [] _ _ _ _
  have hr9 : 0 ≤ xc_te (k_ms κ 0) p g ∧ xc_te (k_ms κ 0) p g ≤ 2 := by unfold xc_te; (repeat' split) <;> omega
  refine g_aload_n (i := 3) (pc := 0) dL_tear_0 rfl rfl ?_
  refine g_iconst (pc := 1) dL_tear_1 ?_
  refine g_aload_n (i := 0) (pc := 2) dL_tear_2 rfl rfl ?_
  refine g_iload_n (i := 1) (pc := 3) dL_tear_3 rfl rfl ?_
  refine g_iload_n (i := 2) (pc := 4) dL_tear_4 rfl rfl ?_
  refine g_callV (pc := 5) (as := [vI p, vI g]) (bc' := 2) (bs' := 12) okV_X3_tear rfl l_L_49 dL_tear_5 c_0 hc_3 rfl (Nat.le_of_ble_eq_true rfl) (by decide) (Nat.le_of_ble_eq_true rfl) ⟨Nat.le_refl _, Nat.le_refl _⟩ (t_X3_tear hK h_p h_g) (fun h => nomatch h) (fun r w' h => ?_) (fun E w' h => ?_)
  · obtain ⟨h1, h2⟩ := h
    subst h2
    obtain ⟨hc, rfl⟩ := xR_i h1
    simp only [Option.toList, List.cons_append, List.nil_append]
    refine g_wr ?_
    refine g_i2l (pc := 8) dL_tear_8 (wr_rng _) ?_
    refine g_last (pc := 9) dL_tear_9 c_87 (by decide) ?_
    refine G.eqw w_o ?_
    refine g_goto (tgt := 21) (pc := 10) dL_tear_10 (by decide) ?_
    refine g_iconst (pc := 21) dL_tear_21 ?_
    refine g_iret (pc := 22) rfl dL_tear_22 (fun h => h) ?_
    exact pD_0 hc rfl rfl
  · obtain ⟨h1, h2⟩ := h
    subst h2
    rcases xR_e h1 with ⟨hc, rfl⟩ | ⟨hc, rfl⟩ | ⟨hc0, hc1, hc2, rfl⟩
    · refine GX.catchW (E := "java/lang/IndexOutOfBoundsException") (nm := "java/lang/IndexOutOfBoundsException") [] (0, 10, 13, 28) [(0, 10, 17, 15)] (i := 4) rfl (fun z h => nomatch h) (by decide) (by decide) cl_L_28 (by decide +kernel) dL_tear_13 (by decide) rfl ?_
      simp only [List.set_cons_succ, List.set_cons_zero]
      refine g_iconst (pc := 15) dL_tear_15 ?_
      refine g_iret (pc := 16) rfl dL_tear_16 (fun h => h) ?_
      exact pD_1 (k := 1) hc (by decide) rfl rfl
    · refine GX.catchW (E := "java/lang/IllegalStateException") (nm := "java/lang/IllegalStateException") [(0, 10, 13, 28)] (0, 10, 17, 15) [] (i := 4) rfl (fun z h => by
        simp only [List.mem_cons, List.not_mem_nil, or_false] at h
        rcases h with rfl
        · exact ⟨by decide, _, cl_L_28, by decide +kernel⟩) (by decide) (by decide) cl_L_15 (by decide +kernel) dL_tear_17 (by decide) rfl ?_
      simp only [List.set_cons_succ, List.set_cons_zero]
      refine g_iconst (pc := 19) dL_tear_19 ?_
      refine g_iret (pc := 20) rfl dL_tear_20 (fun h => h) ?_
      exact pD_1 (k := 2) hc (by decide) rfl rfl
    · exfalso
      omega
set_option maxRecDepth 20000 in
set_option maxHeartbeats 400000 in
theorem t_L_press {κ : KT} {δ : DT} {o : Nat → Int} (hK : KInv κ) {n : Int} (h_n : -2147483648 ≤ n ∧ n < 2147483648) : GM M_L_press false [vR 0, vI n, vR 87] (cW κ δ o) 2 12 (pD (xc_pr n) (nff (s_pre (k_ms κ 0) n)) (k_setms (k_rem κ) 0 (s_pre (k_ms κ 0) n)) κ δ o) := by
  show G _ none _ _ 0 [some (vR 0), some (vI n), some (vR 87), none] [] _ _ _ _
  have hr9 : 0 ≤ xc_pr n ∧ xc_pr n ≤ 1 := by unfold xc_pr; (repeat' split) <;> omega
  refine g_aload_n (i := 2) (pc := 0) dL_press_0 rfl rfl ?_
  refine g_iconst (pc := 1) dL_press_1 ?_
  refine g_aload_n (i := 0) (pc := 2) dL_press_2 rfl rfl ?_
  refine g_iload_n (i := 1) (pc := 3) dL_press_3 rfl rfl ?_
  refine g_callV (pc := 4) (as := [vI n]) (bc' := 2) (bs' := 12) okV_X3_press rfl l_L_52 dL_press_4 c_0 hc_3 rfl (Nat.le_of_ble_eq_true rfl) (by decide) (Nat.le_of_ble_eq_true rfl) ⟨Nat.le_refl _, Nat.le_refl _⟩ (t_X3_press hK h_n) (fun h => nomatch h) (fun r w' h => ?_) (fun E w' h => ?_)
  · obtain ⟨h1, h2⟩ := h
    subst h2
    obtain ⟨hc, rfl⟩ := xR_i h1
    simp only [Option.toList, List.cons_append, List.nil_append]
    refine g_wr ?_
    refine g_i2l (pc := 7) dL_press_7 (wr_rng _) ?_
    refine g_last (pc := 8) dL_press_8 c_87 (by decide) ?_
    refine G.eqw w_o ?_
    refine g_goto (tgt := 15) (pc := 9) dL_press_9 (by decide) ?_
    refine g_iconst (pc := 15) dL_press_15 ?_
    refine g_iret (pc := 16) rfl dL_press_16 (fun h => h) ?_
    exact pD_0 hc rfl rfl
  · obtain ⟨h1, h2⟩ := h
    subst h2
    rcases xR_e h1 with ⟨hc, rfl⟩ | ⟨hc, rfl⟩ | ⟨hc0, hc1, hc2, rfl⟩
    · refine GX.catch (E := "java/lang/IllegalArgumentException") (nm := "java/lang/IllegalArgumentException") [] (0, 9, 12, 13) [] (i := 3) rfl (fun z h => nomatch h) (by decide) (by decide) cl_L_13 (by decide +kernel) dL_press_12 rfl (by decide) rfl ?_
      simp only [List.set_cons_succ, List.set_cons_zero]
      refine g_iconst (pc := 13) dL_press_13 ?_
      refine g_iret (pc := 14) rfl dL_press_14 (fun h => h) ?_
      exact pD_1 (k := 1) hc (by decide) rfl rfl
    · exfalso
      omega
    · exfalso
      omega
set_option maxRecDepth 20000 in
set_option maxHeartbeats 400000 in
theorem t_L_undo {κ : KT} {δ : DT} {o : Nat → Int} (hK : KInv κ)  : GM M_L_undo false [vR 0, vR 87] (cW κ δ o) 2 12 (pD (xc_un κ) (k_sz κ - 1) (k_tak κ) κ δ o) := by
  show G _ none _ _ 0 [some (vR 0), some (vR 87), none] [] _ _ _ _
  have hr9 : 0 ≤ xc_un κ ∧ xc_un κ ≤ 1 := by unfold xc_un; (repeat' split) <;> omega
  refine g_aload_n (i := 1) (pc := 0) dL_undo_0 rfl rfl ?_
  refine g_iconst (pc := 1) dL_undo_1 ?_
  refine g_aload_n (i := 0) (pc := 2) dL_undo_2 rfl rfl ?_
  refine g_callV (pc := 3) (as := []) (bc' := 2) (bs' := 12) okV_X3_undo rfl l_L_55 dL_undo_3 c_0 hc_3 rfl (Nat.le_of_ble_eq_true rfl) (by decide) (Nat.le_of_ble_eq_true rfl) ⟨Nat.le_refl _, Nat.le_refl _⟩ (t_X3_undo hK) (fun h => nomatch h) (fun r w' h => ?_) (fun E w' h => ?_)
  · obtain ⟨h1, h2⟩ := h
    subst h2
    obtain ⟨hc, rfl⟩ := xR_i h1
    simp only [Option.toList, List.cons_append, List.nil_append]
    refine g_wr ?_
    refine g_i2l (pc := 6) dL_undo_6 (wr_rng _) ?_
    refine g_last (pc := 7) dL_undo_7 c_87 (by decide) ?_
    refine G.eqw w_o ?_
    refine g_goto (tgt := 14) (pc := 8) dL_undo_8 (by decide) ?_
    refine g_iconst (pc := 14) dL_undo_14 ?_
    refine g_iret (pc := 15) rfl dL_undo_15 (fun h => h) ?_
    exact pD_0 hc rfl rfl
  · obtain ⟨h1, h2⟩ := h
    subst h2
    rcases xR_e h1 with ⟨hc, rfl⟩ | ⟨hc, rfl⟩ | ⟨hc0, hc1, hc2, rfl⟩
    · refine GX.catch (E := "java/lang/IllegalStateException") (nm := "java/lang/IllegalStateException") [] (0, 8, 11, 15) [] (i := 2) rfl (fun z h => nomatch h) (by decide) (by decide) cl_L_15 (by decide +kernel) dL_undo_11 rfl (by decide) rfl ?_
      simp only [List.set_cons_succ, List.set_cons_zero]
      refine g_iconst (pc := 12) dL_undo_12 ?_
      refine g_iret (pc := 13) rfl dL_undo_13 (fun h => h) ?_
      exact pD_1 (k := 1) hc (by decide) rfl rfl
    · exfalso
      omega
    · exfalso
      omega
set_option maxRecDepth 20000 in
set_option maxHeartbeats 400000 in
theorem t_L_whyNot {κ : KT} {δ : DT} {o : Nat → Int} (hK : KInv κ) {p : Int} (h_p : -2147483648 ≤ p ∧ p < 2147483648) {g : Int} (h_g : -2147483648 ≤ g ∧ g < 2147483648) : GM M_L_whyNot false [vR 0, vI p, vI g, vR 87] (cW κ δ o) 2 12 (pD (xc_wn (k_ms κ 0) p g) (wn (k_ms κ 0) p g) (κ) κ δ o) := by
  show G _ none _ _ 0 [some (vR 0), some (vI p), some (vI g), some (vR 87), none] [] _ _ _ _
  have hr9 : 0 ≤ xc_wn (k_ms κ 0) p g ∧ xc_wn (k_ms κ 0) p g ≤ 1 := by unfold xc_wn; (repeat' split) <;> omega
  refine g_aload_n (i := 3) (pc := 0) dL_whyNot_0 rfl rfl ?_
  refine g_iconst (pc := 1) dL_whyNot_1 ?_
  refine g_aload_n (i := 0) (pc := 2) dL_whyNot_2 rfl rfl ?_
  refine g_iload_n (i := 1) (pc := 3) dL_whyNot_3 rfl rfl ?_
  refine g_iload_n (i := 2) (pc := 4) dL_whyNot_4 rfl rfl ?_
  refine g_callV (pc := 5) (as := [vI p, vI g]) (bc' := 2) (bs' := 12) okV_X3_whyNot rfl l_L_58 dL_whyNot_5 c_0 hc_3 rfl (Nat.le_of_ble_eq_true rfl) (by decide) (Nat.le_of_ble_eq_true rfl) ⟨Nat.le_refl _, Nat.le_refl _⟩ (t_X3_whyNot hK h_p h_g) (fun h => nomatch h) (fun r w' h => ?_) (fun E w' h => ?_)
  · obtain ⟨h1, h2⟩ := h
    subst h2
    obtain ⟨hc, rfl⟩ := xR_i h1
    simp only [Option.toList, List.cons_append, List.nil_append]
    refine g_wr ?_
    refine g_i2l (pc := 8) dL_whyNot_8 (wr_rng _) ?_
    refine g_last (pc := 9) dL_whyNot_9 c_87 (by decide) ?_
    refine G.eqw w_o ?_
    refine g_goto (tgt := 17) (pc := 10) dL_whyNot_10 (by decide) ?_
    refine g_iconst (pc := 17) dL_whyNot_17 ?_
    refine g_iret (pc := 18) rfl dL_whyNot_18 (fun h => h) ?_
    exact pD_0 hc (by split <;> rfl) rfl
  · obtain ⟨h1, h2⟩ := h
    subst h2
    rcases xR_e h1 with ⟨hc, rfl⟩ | ⟨hc, rfl⟩ | ⟨hc0, hc1, hc2, rfl⟩
    · refine GX.catchW (E := "java/lang/IndexOutOfBoundsException") (nm := "java/lang/IndexOutOfBoundsException") [] (0, 10, 13, 28) [] (i := 4) rfl (fun z h => nomatch h) (by decide) (by decide) cl_L_28 (by decide +kernel) dL_whyNot_13 (by decide) rfl ?_
      simp only [List.set_cons_succ, List.set_cons_zero]
      refine g_iconst (pc := 15) dL_whyNot_15 ?_
      refine g_iret (pc := 16) rfl dL_whyNot_16 (fun h => h) ?_
      exact pD_1 (k := 1) hc (by decide) (by split <;> rfl) rfl
    · exfalso
      omega
    · exfalso
      omega
set_option maxRecDepth 20000 in
set_option maxHeartbeats 400000 in
theorem t_L_wouldDo {κ : KT} {δ : DT} {o : Nat → Int} (hK : KInv κ) {p : Int} (h_p : -2147483648 ≤ p ∧ p < 2147483648) {v : Int} (h_v : -2147483648 ≤ v ∧ v < 2147483648) : GM M_L_wouldDo false [vR 0, vI p, vI v, vR 87] (cW κ δ o) 2 12 (pD (xc_wd (k_ms κ 0) p v) (oc (k_ms κ 0) p v) (κ) κ δ o) := by
  show G _ none _ _ 0 [some (vR 0), some (vI p), some (vI v), some (vR 87), none] [] _ _ _ _
  have hr9 : 0 ≤ xc_wd (k_ms κ 0) p v ∧ xc_wd (k_ms κ 0) p v ≤ 1 := by unfold xc_wd; (repeat' split) <;> omega
  refine g_aload_n (i := 3) (pc := 0) dL_wouldDo_0 rfl rfl ?_
  refine g_iconst (pc := 1) dL_wouldDo_1 ?_
  refine g_aload_n (i := 0) (pc := 2) dL_wouldDo_2 rfl rfl ?_
  refine g_iload_n (i := 1) (pc := 3) dL_wouldDo_3 rfl rfl ?_
  refine g_iload_n (i := 2) (pc := 4) dL_wouldDo_4 rfl rfl ?_
  refine g_callV (pc := 5) (as := [vI p, vI v]) (bc' := 2) (bs' := 12) okV_X3_wouldDo rfl l_L_61 dL_wouldDo_5 c_0 hc_3 rfl (Nat.le_of_ble_eq_true rfl) (by decide) (Nat.le_of_ble_eq_true rfl) ⟨Nat.le_refl _, Nat.le_refl _⟩ (t_X3_wouldDo hK h_p h_v) (fun h => nomatch h) (fun r w' h => ?_) (fun E w' h => ?_)
  · obtain ⟨h1, h2⟩ := h
    subst h2
    obtain ⟨hc, rfl⟩ := xR_i h1
    simp only [Option.toList, List.cons_append, List.nil_append]
    refine g_wr ?_
    refine g_i2l (pc := 8) dL_wouldDo_8 (wr_rng _) ?_
    refine g_last (pc := 9) dL_wouldDo_9 c_87 (by decide) ?_
    refine G.eqw w_o ?_
    refine g_goto (tgt := 17) (pc := 10) dL_wouldDo_10 (by decide) ?_
    refine g_iconst (pc := 17) dL_wouldDo_17 ?_
    refine g_iret (pc := 18) rfl dL_wouldDo_18 (fun h => h) ?_
    exact pD_0 hc (by split <;> rfl) rfl
  · obtain ⟨h1, h2⟩ := h
    subst h2
    rcases xR_e h1 with ⟨hc, rfl⟩ | ⟨hc, rfl⟩ | ⟨hc0, hc1, hc2, rfl⟩
    · refine GX.catchW (E := "java/lang/IndexOutOfBoundsException") (nm := "java/lang/IndexOutOfBoundsException") [] (0, 10, 13, 28) [] (i := 4) rfl (fun z h => nomatch h) (by decide) (by decide) cl_L_28 (by decide +kernel) dL_wouldDo_13 (by decide) rfl ?_
      simp only [List.set_cons_succ, List.set_cons_zero]
      refine g_iconst (pc := 15) dL_wouldDo_15 ?_
      refine g_iret (pc := 16) rfl dL_wouldDo_16 (fun h => h) ?_
      exact pD_1 (k := 1) hc (by decide) (by split <;> rfl) rfl
    · exfalso
      omega
    · exfalso
      omega
set_option maxRecDepth 20000 in
set_option maxHeartbeats 400000 in
theorem t_L_writable {κ : KT} {δ : DT} {o : Nat → Int} (hK : KInv κ) {p : Int} (h_p : -2147483648 ≤ p ∧ p < 2147483648) : GM M_L_writable false [vR 0, vI p, vR 87] (cW κ δ o) 2 12 (pX (xc_wa (k_ms κ 0) p) (cwv (k_ms κ 0) p) κ δ o) := by
  show G _ none _ _ 0 [some (vR 0), some (vI p), some (vR 87), none] [] _ _ _ _
  have hr9 : 0 ≤ xc_wa (k_ms κ 0) p ∧ xc_wa (k_ms κ 0) p ≤ 1 := by unfold xc_wa; (repeat' split) <;> omega
  refine g_aload_n (i := 2) (pc := 0) dL_writable_0 rfl rfl ?_
  refine g_iconst (pc := 1) dL_writable_1 ?_
  refine g_aload_n (i := 0) (pc := 2) dL_writable_2 rfl rfl ?_
  refine g_iload_n (i := 1) (pc := 3) dL_writable_3 rfl rfl ?_
  refine g_callV (pc := 4) (as := [vI p]) (bc' := 2) (bs' := 12) okV_X3_writable rfl l_L_64 dL_writable_4 c_0 hc_3 rfl (Nat.le_of_ble_eq_true rfl) (by decide) (Nat.le_of_ble_eq_true rfl) ⟨Nat.le_refl _, Nat.le_refl _⟩ (t_X3_writable hK h_p) (fun h => nomatch h) (fun r w' h => ?_) (fun E w' h => ?_)
  · obtain ⟨h1, h2⟩ := h
    obtain ⟨τ, hτ, rfl⟩ := h2
    obtain ⟨hc, rfl⟩ := xR_i h1
    simp only [Option.toList, List.cons_append, List.nil_append]
    refine g_wr ?_
    refine g_i2l (pc := 7) dL_writable_7 (wr_rng _) ?_
    refine g_last (pc := 8) dL_writable_8 c_87 (by decide) ?_
    refine G.eqw w_o ?_
    refine g_goto (tgt := 15) (pc := 9) dL_writable_9 (by decide) ?_
    refine g_iconst (pc := 15) dL_writable_15 ?_
    refine g_iret (pc := 16) rfl dL_writable_16 (fun h => h) ?_
    exact pX_0 hτ hc rfl
  · obtain ⟨h1, h2⟩ := h
    obtain ⟨τ, hτ, rfl⟩ := h2
    rcases xR_e h1 with ⟨hc, rfl⟩ | ⟨hc, rfl⟩ | ⟨hc0, hc1, hc2, rfl⟩
    · refine GX.catch (E := "java/lang/IndexOutOfBoundsException") (nm := "java/lang/IndexOutOfBoundsException") [] (0, 9, 12, 28) [] (i := 3) rfl (fun z h => nomatch h) (by decide) (by decide) cl_L_28 (by decide +kernel) dL_writable_12 rfl (by decide) rfl ?_
      simp only [List.set_cons_succ, List.set_cons_zero]
      refine g_iconst (pc := 13) dL_writable_13 ?_
      refine g_iret (pc := 14) rfl dL_writable_14 (fun h => h) ?_
      exact pX_1 (k := 1) hτ hc (by decide) rfl
    · exfalso
      omega
    · exfalso
      omega
set_option maxRecDepth 20000 in
set_option maxHeartbeats 400000 in
theorem t_L_runScript {κ : KT} {δ : DT} {o : Nat → Int} (hK : KInv κ) {n : Int} (h_n : -2147483648 ≤ n ∧ n < 2147483648) {s : Int} (h_s : -9223372036854775808 ≤ s ∧ s < 9223372036854775808) : GM M_L_runScript false [vR 0, vI n, vL s, vR 87] (cW κ δ o) 2 12 (pX (xc_ru n s) (ruv (k_ms κ 0) n s) κ δ o) := by
  show G _ none _ _ 0 [some (vR 0), some (vI n), some (vL s), none, some (vR 87), none] [] _ _ _ _
  have hr9 : 0 ≤ xc_ru n s ∧ xc_ru n s ≤ 1 := by unfold xc_ru; (repeat' split) <;> omega
  refine g_aload (pc := 0) dL_runScript_0 rfl ?_
  refine g_iconst (pc := 2) dL_runScript_2 ?_
  refine g_aload_n (i := 0) (pc := 3) dL_runScript_3 rfl rfl ?_
  refine g_iload_n (i := 1) (pc := 4) dL_runScript_4 rfl rfl ?_
  refine g_lload_n (i := 2) (pc := 5) dL_runScript_5 rfl rfl ?_
  refine g_callV (pc := 6) (as := [vI n, vL s]) (bc' := 2) (bs' := 12) okV_X3_runScript rfl l_L_67 dL_runScript_6 c_0 hc_3 rfl (Nat.le_of_ble_eq_true rfl) (by decide) (Nat.le_of_ble_eq_true rfl) ⟨Nat.le_refl _, Nat.le_refl _⟩ (t_X3_runScript hK h_n h_s) (fun h => nomatch h) (fun r w' h => ?_) (fun E w' h => ?_)
  · obtain ⟨h1, h2⟩ := h
    obtain ⟨τ, hτ, rfl⟩ := h2
    obtain ⟨hc, rfl⟩ := xR_i h1
    simp only [Option.toList, List.cons_append, List.nil_append]
    refine g_wr ?_
    refine g_i2l (pc := 9) dL_runScript_9 (wr_rng _) ?_
    refine g_last (pc := 10) dL_runScript_10 c_87 (by decide) ?_
    refine G.eqw w_o ?_
    refine g_goto (tgt := 18) (pc := 11) dL_runScript_11 (by decide) ?_
    refine g_iconst (pc := 18) dL_runScript_18 ?_
    refine g_iret (pc := 19) rfl dL_runScript_19 (fun h => h) ?_
    exact pX_0 hτ hc rfl
  · obtain ⟨h1, h2⟩ := h
    obtain ⟨τ, hτ, rfl⟩ := h2
    rcases xR_e h1 with ⟨hc, rfl⟩ | ⟨hc, rfl⟩ | ⟨hc0, hc1, hc2, rfl⟩
    · refine GX.catchW (E := "java/lang/IllegalArgumentException") (nm := "java/lang/IllegalArgumentException") [] (0, 11, 14, 13) [] (i := 5) rfl (fun z h => nomatch h) (by decide) (by decide) cl_L_13 (by decide +kernel) dL_runScript_14 (by decide) rfl ?_
      simp only [List.set_cons_succ, List.set_cons_zero]
      refine g_iconst (pc := 16) dL_runScript_16 ?_
      refine g_iret (pc := 17) rfl dL_runScript_17 (fun h => h) ?_
      exact pX_1 (k := 1) hτ hc (by decide) rfl
    · exfalso
      omega
    · exfalso
      omega
set_option maxRecDepth 20000 in
set_option maxHeartbeats 400000 in
theorem t_L_simulate {κ : KT} {δ : DT} {o : Nat → Int} (hK : KInv κ) {x : Int} (h_x : -9223372036854775808 ≤ x ∧ x < 9223372036854775808) {m : Int} (h_m : -2147483648 ≤ m ∧ m < 2147483648) : GM M_L_simulate false [vR 0, vL x, vI m, vR 87] (cW κ δ o) 2 12 (pX (xc_si m) (siv (k_ms κ 0) x m) κ δ o) := by
  show G _ none _ _ 0 [some (vR 0), some (vL x), none, some (vI m), some (vR 87), none] [] _ _ _ _
  have hr9 : 0 ≤ xc_si m ∧ xc_si m ≤ 1 := by unfold xc_si; (repeat' split) <;> omega
  refine g_aload (pc := 0) dL_simulate_0 rfl ?_
  refine g_iconst (pc := 2) dL_simulate_2 ?_
  refine g_aload_n (i := 0) (pc := 3) dL_simulate_3 rfl rfl ?_
  refine g_lload_n (i := 1) (pc := 4) dL_simulate_4 rfl rfl ?_
  refine g_iload_n (i := 3) (pc := 5) dL_simulate_5 rfl rfl ?_
  refine g_callV (pc := 6) (as := [vL x, vI m]) (bc' := 2) (bs' := 12) okV_X3_simulate rfl l_L_71 dL_simulate_6 c_0 hc_3 rfl (Nat.le_of_ble_eq_true rfl) (by decide) (Nat.le_of_ble_eq_true rfl) ⟨Nat.le_refl _, Nat.le_refl _⟩ (t_X3_simulate hK h_x h_m) (fun h => nomatch h) (fun r w' h => ?_) (fun E w' h => ?_)
  · obtain ⟨h1, h2⟩ := h
    obtain ⟨τ, hτ, rfl⟩ := h2
    obtain ⟨hc, rfl⟩ := xR_i h1
    simp only [Option.toList, List.cons_append, List.nil_append]
    refine g_wr ?_
    refine g_i2l (pc := 9) dL_simulate_9 (wr_rng _) ?_
    refine g_last (pc := 10) dL_simulate_10 c_87 (by decide) ?_
    refine G.eqw w_o ?_
    refine g_goto (tgt := 18) (pc := 11) dL_simulate_11 (by decide) ?_
    refine g_iconst (pc := 18) dL_simulate_18 ?_
    refine g_iret (pc := 19) rfl dL_simulate_19 (fun h => h) ?_
    exact pX_0 hτ hc rfl
  · obtain ⟨h1, h2⟩ := h
    obtain ⟨τ, hτ, rfl⟩ := h2
    rcases xR_e h1 with ⟨hc, rfl⟩ | ⟨hc, rfl⟩ | ⟨hc0, hc1, hc2, rfl⟩
    · refine GX.catchW (E := "java/lang/IllegalArgumentException") (nm := "java/lang/IllegalArgumentException") [] (0, 11, 14, 13) [] (i := 5) rfl (fun z h => nomatch h) (by decide) (by decide) cl_L_13 (by decide +kernel) dL_simulate_14 (by decide) rfl ?_
      simp only [List.set_cons_succ, List.set_cons_zero]
      refine g_iconst (pc := 16) dL_simulate_16 ?_
      refine g_iret (pc := 17) rfl dL_simulate_17 (fun h => h) ?_
      exact pX_1 (k := 1) hτ hc (by decide) rfl
    · exfalso
      omega
    · exfalso
      omega
set_option maxRecDepth 20000 in
set_option maxHeartbeats 400000 in
theorem t_L_save {κ : KT} {δ : DT} {o : Nat → Int} (hK : KInv κ) {x : Int} (h_x : -2147483648 ≤ x ∧ x < 2147483648) : GM M_L_save false [vR 0, vI x, vR 87] (cW κ δ o) 2 12 (pD (xc_sv x) (nff (k_ms κ 0)) (xk_sv κ x) κ δ o) := by
  show G _ none _ _ 0 [some (vR 0), some (vI x), some (vR 87), none] [] _ _ _ _
  have hr9 : 0 ≤ xc_sv x ∧ xc_sv x ≤ 1 := by unfold xc_sv; (repeat' split) <;> omega
  refine g_aload_n (i := 2) (pc := 0) dL_save_0 rfl rfl ?_
  refine g_iconst (pc := 1) dL_save_1 ?_
  refine g_aload_n (i := 0) (pc := 2) dL_save_2 rfl rfl ?_
  refine g_iload_n (i := 1) (pc := 3) dL_save_3 rfl rfl ?_
  refine g_callV (pc := 4) (as := [vI x]) (bc' := 2) (bs' := 12) okV_X3_save rfl l_L_75 dL_save_4 c_0 hc_3 rfl (Nat.le_of_ble_eq_true rfl) (by decide) (Nat.le_of_ble_eq_true rfl) ⟨Nat.le_refl _, Nat.le_refl _⟩ (t_X3_save hK h_x) (fun h => nomatch h) (fun r w' h => ?_) (fun E w' h => ?_)
  · obtain ⟨h1, h2⟩ := h
    subst h2
    obtain ⟨hc, rfl⟩ := xR_i h1
    simp only [Option.toList, List.cons_append, List.nil_append]
    refine g_wr ?_
    refine g_i2l (pc := 7) dL_save_7 (wr_rng _) ?_
    refine g_last (pc := 8) dL_save_8 c_87 (by decide) ?_
    refine G.eqw w_o ?_
    refine g_goto (tgt := 15) (pc := 9) dL_save_9 (by decide) ?_
    refine g_iconst (pc := 15) dL_save_15 ?_
    refine g_iret (pc := 16) rfl dL_save_16 (fun h => h) ?_
    exact pD_0 hc rfl rfl
  · obtain ⟨h1, h2⟩ := h
    subst h2
    rcases xR_e h1 with ⟨hc, rfl⟩ | ⟨hc, rfl⟩ | ⟨hc0, hc1, hc2, rfl⟩
    · refine GX.catch (E := "java/lang/IndexOutOfBoundsException") (nm := "java/lang/IndexOutOfBoundsException") [] (0, 9, 12, 28) [] (i := 3) rfl (fun z h => nomatch h) (by decide) (by decide) cl_L_28 (by decide +kernel) dL_save_12 rfl (by decide) rfl ?_
      simp only [List.set_cons_succ, List.set_cons_zero]
      refine g_iconst (pc := 13) dL_save_13 ?_
      refine g_iret (pc := 14) rfl dL_save_14 (fun h => h) ?_
      exact pD_1 (k := 1) hc (by decide) rfl rfl
    · exfalso
      omega
    · exfalso
      omega
set_option maxRecDepth 20000 in
set_option maxHeartbeats 400000 in
theorem t_L_restore {κ : KT} {δ : DT} {o : Nat → Int} (hK : KInv κ) {x : Int} (h_x : -2147483648 ≤ x ∧ x < 2147483648) : GM M_L_restore false [vR 0, vI x, vR 87] (cW κ δ o) 2 12 (pD (xc_rs κ x) (nff (k_ms κ (16 + x.toNat))) (xk_rs κ x) κ δ o) := by
  show G _ none _ _ 0 [some (vR 0), some (vI x), some (vR 87), none] [] _ _ _ _
  have hr9 : 0 ≤ xc_rs κ x ∧ xc_rs κ x ≤ 2 := by unfold xc_rs; (repeat' split) <;> omega
  refine g_aload_n (i := 2) (pc := 0) dL_restore_0 rfl rfl ?_
  refine g_iconst (pc := 1) dL_restore_1 ?_
  refine g_aload_n (i := 0) (pc := 2) dL_restore_2 rfl rfl ?_
  refine g_iload_n (i := 1) (pc := 3) dL_restore_3 rfl rfl ?_
  refine g_callV (pc := 4) (as := [vI x]) (bc' := 2) (bs' := 12) okV_X3_restore rfl l_L_78 dL_restore_4 c_0 hc_3 rfl (Nat.le_of_ble_eq_true rfl) (by decide) (Nat.le_of_ble_eq_true rfl) ⟨Nat.le_refl _, Nat.le_refl _⟩ (t_X3_restore hK h_x) (fun h => nomatch h) (fun r w' h => ?_) (fun E w' h => ?_)
  · obtain ⟨h1, h2⟩ := h
    subst h2
    obtain ⟨hc, rfl⟩ := xR_i h1
    simp only [Option.toList, List.cons_append, List.nil_append]
    refine g_wr ?_
    refine g_i2l (pc := 7) dL_restore_7 (wr_rng _) ?_
    refine g_last (pc := 8) dL_restore_8 c_87 (by decide) ?_
    refine G.eqw w_o ?_
    refine g_goto (tgt := 18) (pc := 9) dL_restore_9 (by decide) ?_
    refine g_iconst (pc := 18) dL_restore_18 ?_
    refine g_iret (pc := 19) rfl dL_restore_19 (fun h => h) ?_
    exact pD_0 hc rfl rfl
  · obtain ⟨h1, h2⟩ := h
    subst h2
    rcases xR_e h1 with ⟨hc, rfl⟩ | ⟨hc, rfl⟩ | ⟨hc0, hc1, hc2, rfl⟩
    · refine GX.catch (E := "java/lang/IndexOutOfBoundsException") (nm := "java/lang/IndexOutOfBoundsException") [] (0, 9, 12, 28) [(0, 9, 15, 15)] (i := 3) rfl (fun z h => nomatch h) (by decide) (by decide) cl_L_28 (by decide +kernel) dL_restore_12 rfl (by decide) rfl ?_
      simp only [List.set_cons_succ, List.set_cons_zero]
      refine g_iconst (pc := 13) dL_restore_13 ?_
      refine g_iret (pc := 14) rfl dL_restore_14 (fun h => h) ?_
      exact pD_1 (k := 1) hc (by decide) rfl rfl
    · refine GX.catch (E := "java/lang/IllegalStateException") (nm := "java/lang/IllegalStateException") [(0, 9, 12, 28)] (0, 9, 15, 15) [] (i := 3) rfl (fun z h => by
        simp only [List.mem_cons, List.not_mem_nil, or_false] at h
        rcases h with rfl
        · exact ⟨by decide, _, cl_L_28, by decide +kernel⟩) (by decide) (by decide) cl_L_15 (by decide +kernel) dL_restore_15 rfl (by decide) rfl ?_
      simp only [List.set_cons_succ, List.set_cons_zero]
      refine g_iconst (pc := 16) dL_restore_16 ?_
      refine g_iret (pc := 17) rfl dL_restore_17 (fun h => h) ?_
      exact pD_1 (k := 2) hc (by decide) rfl rfl
    · exfalso
      omega
end MW
