/-! A CALL THAT READS THE SCRIPT; numbers out of it -/
section CE9
theorem b_andp (x : Int) : 0 ≤ b_and x 2147483647 ∧ b_and x 2147483647 < 2147483648 := by
  unfold b_and
  have h : (Int32.ofInt x &&& Int32.ofInt 2147483647).toBitVec.toNat ≤ 2147483647 := by
    rw [Int32.toBitVec_and, BitVec.toNat_and]
    exact Nat.and_le_right
  generalize Int32.ofInt x &&& Int32.ofInt 2147483647 = z at h
  have h2 : z.toInt = (z.toBitVec.toNat : Int) := by
    show z.toBitVec.toInt = _
    rw [BitVec.toInt_eq_toNat_of_lt (by show 2 * z.toBitVec.toNat < 2 ^ 32; omega)]
  rw [h2]
  omega
def lowv (v n : Int) : Int := Int.tmod (b_and v 2147483647) n
theorem lowv_rng (v : Int) {n : Int} (hn : 0 < n) : 0 ≤ lowv v n ∧ lowv v n < n := by
  have h := b_andp v
  unfold lowv
  rw [Int.tmod_eq_emod_of_nonneg h.1]
  exact ⟨Int.emod_nonneg _ (by omega), Int.emod_lt_of_pos _ hn⟩
def cellv (n : Nat) (f : Nat → Int) (k : Int) : Int := if k < n then f k.toNat else 1541459225 * (k + 1) + 792403069
def g_PcS (scr : Option (Nat × (Nat → Int))) (al : Bool) (D : va_G) (cA : Nat → ClassId) (ad : Nat → Nat) (base sz : Nat) (as : List MV) (w : List MC) : Array Value → State → Prop :=
  va_Pc (as.map (g_V ad)) (fun U => U.heap.size = sz ∧ va_P D vwCl (g_W cA ad w) U.heap ∧ va_K D vwCl (g_tys cA) U ∧ va_D (fun _ => True) (g_W cA ad w) ∧ G_al al base ad w sz ∧ G_th (va_A (g_W cA ad w) sz) U ∧ ∀ q, scr = some q → va_X (ad SCR) q.1 (fun j => Int32.ofInt (q.2 j)) U U.heap ∧ ad SCR < U.heap.size ∧ ¬ va_A (g_W cA ad w) sz (ad SCR))
theorem g_metS {M : MT} {scr : Option (Nat × (Nat → Int))} {al : Bool} {as : List MV} {w : List MC} {bc bs : Nat} {Q : (Option MV) ⊕ String → List MC → Prop} {l : Launch} (hl : l.stackTraces = false) (hn : (g_ent as).length ≤ mL M) (hy : plainName (mY M).cls = true) (hh : mH M = []) (D : va_G) (cA : Nat → ClassId) (ad : Nat → Nat) (base sz : Nat)
    (k : G M scr al al 0 (g_pad (mL M) as) [] w bc bs Q) : vx_Met l (mY M) (g_ws M) (g_rm M bc bs) (g_PcS scr al D cA ad base sz as w) (G_Q al D cA ad base (va_A (g_W cA ad w) sz) Q) (G_X D cA ad base (va_A (g_W cA ad w) sz) Q) bc bs (va_A (g_W cA ad w) sz) := by
  refine vx_ofW (cc := mC M) (maxL := mL M) (ret := mR M) hy (g_ws_code hh) ?_
  intro p e s m args below meth c s₁ B hml ht hv
  obtain ⟨rfl, rfl, hP, hK, hD, hal, hth, hsc⟩ := hv
  rw [lg_entry_eq]
  have hts := atoms_spec (ws := g_ws M) B.pre
  have htb : c.exceptionTable.toList = tableOf (mH M) := by
    rw [hh]
    cases hc : c.exceptionTable.toList with
    | nil => rfl
    | cons x xs => exact (ht x (by rw [hc]; exact List.mem_cons_self)).elim
  exact k p l e (g_rm M bc bs) s m _ below meth c D cA ad base _ s.heap [] 0 0 bc bs _
    ⟨B.exec, hl, B.bytes, hml, B.returns, B.notSynchronized, (name_of_methodNamed B.named B.method).1, htb, findClass_of_methodNamed B.named, fun w hw => hts w (by unfold g_ws; exact List.mem_cons_of_mem _ hw), ⟨rfl, rfl, rfl, rfl⟩, fun q hq => Or.inr hq, hth, hsc⟩
    ⟨hP, hK, hD.self, va_S.rf, ⟨hal, fun h => (hal h).1⟩, Nat.le_of_eq (Nat.zero_add _), Nat.le_of_eq (Nat.zero_add _)⟩ (g_entry hn)
section
variable {M : MT} {scr : Option (Nat × (Nat → Int))} {al alE : Bool} {pc : Nat} {L : List (Option MV)} {S : List MV} {w : List MC} {bc bs : Nat} {Q : (Option MV) ⊕ String → List MC → Prop}
theorem g_blindS {D : va_G} {cA : Nat → ClassId} {ad : Nat → Nat} {base : Nat} {as : List MV} {sz : Nat} : FrameBlind (g_PcS scr al D cA ad base sz as w) := by
  intro a U g mk h
  obtain ⟨q0, q1, q2, q3, q4, q5, q6, q7⟩ := h
  refine ⟨q0, q1, q2, va_K.moved (u := U) (U := U.calling g mk a) (Vm.Alike.refl U.vm) q3, q4, q5, q6.called g mk a, fun q hq => ?_⟩
  obtain ⟨x1, x2, x3⟩ := q7 q hq
  exact ⟨va_X.moved (u := U) (U := U.calling g mk a) (Vm.Alike.refl U.vm) x1, x2, x3⟩
theorem g_callSS {Mj : MT} {idx n : Nat} {as : List MV} {bc' bs' : Nat} {Q' : (Option MV) ⊕ String → List MC → Prop} (hok : g_okS Mj n) (hh : mH Mj = []) (hlink : Cond.methodLink (mY M).cls idx (mY Mj) ∈ g_WS) (hd : decode (mC M) pc = .ok (.invokestatic idx, 3))
    (hn : as.length = n) (hent : (g_ent as).length ≤ mL Mj) (hroom : mF Mj + 1 ≤ mF M ∧ 8 + (mL Mj + 11) + mO Mj ≤ mO M) (hsz : g_sz S ≤ 8)
    (hb : bc' ≤ bc ∧ bs' ≤ bs) (hj : G Mj scr al al 0 (g_pad (mL Mj) as) [] w bc' bs' Q') (hlen : al = true → ∀ r w', Q' (.inl r) w' → w'.length = w.length + bc')
    (kk : ∀ r w', Q' (.inl r) w' → G M scr al alE (pc + 3) L (r.toList ++ S) w' (bc - bc') (bs - bs') Q)
    (kx : ∀ E w', Q' (.inr E) w' → GX M scr alE pc L S E w' (bc - bc') (bs - bs') Q) : G M scr al alE pc L (as.reverse ++ S) w bc bs Q := by
  intro p l e R s m args below meth c D cA ad base A H locs cells slots mc ms ls fx dy hl
  obtain ⟨f1, f2, f3, f4, f5, f6, f7, f8, f9, f10, ⟨g1, g2, g3, g4⟩, f12, f13, f14⟩ := id fx
  obtain ⟨d1, d2, d3, d4, d5, d6, d7⟩ := id dy
  obtain ⟨hok', o1, o3⟩ := hok
  obtain ⟨p1, p2, p3, p4⟩ := id hok'
  have hcode : Cond.code (mY Mj) (mC Mj) (mL Mj) (mR Mj) ∈ g_WS := by rw [if_pos hh] at p2; exact p2
  have hM := g_metS (l := l) (scr := scr) f2 hent p1 hh D cA ad base H.size hj
  have hcat := g_cats (ad := ad) S
  have hpre : ∀ U : State, U.heap = H → s.WarmedH U.vm → g_PcS scr al D cA ad base H.size as w (as.map (g_V ad)).toArray U := by
    intro U hU hW
    obtain ⟨z0, z1, z2, z3, z4, z5, z6⟩ := g_pre (as := as) fx dy U hU hW
    refine ⟨z0, z1, z2, z3, z4, z5, z6, fun q hq => ?_⟩
    obtain ⟨x1, x2, x3⟩ := f14 q hq
    refine ⟨?_, ?_, ?_⟩
    · rw [hU]
      exact va_X.moved hW.alike (x1.kept (d4.2.1 _ x2 x3))
    · rw [hU]; exact Nat.lt_of_lt_of_le x2 d4.1
    · rintro (⟨k, x, h⟩ | h)
      · exact x3 (d3.2 k _ h)
      · exact absurd (Nat.lt_of_lt_of_le x2 d4.1) (Nat.not_lt.mpr h)
  refine g_run (bc' := bc') (bs' := bs') (Q' := Q') (as := as) fx dy hl (vx_runS (As := as.map (g_V ad)) (rest := S.map (g_V ad)) (n := n) ⟨f1, f3, f4, f9, f10⟩ hM ⟨⟨rfl, rfl, by rw [g1]; exact hroom.1, by rw [g2]; exact hroom.2, g_pws f10 hok', by rw [g_ws_code hh]; exact List.mem_cons_self, f10 _ hcode, f10 _ p3, p4, fun sig h => ?_, f10 _ hlink⟩, f10 _ o1⟩
    ⟨g_blindS, hpre⟩ rfl (by rw [List.length_map]; exact hn) hl.1 ?_ (by show 2 * 0 + _ ≤ 8; rw [hcat]; omega) hd ⟨by omega, by omega⟩) hb hlen kk kx
  · rw [h] at o3
    exact (Option.some.inj o3).symm
  · show (as.reverse ++ S).map (g_V ad) = (as.map (g_V ad)).reverse ++ S.map (g_V ad)
    rw [List.map_append, List.map_reverse]
end
set_option maxRecDepth 20000 in
set_option maxHeartbeats 400000 in
theorem t_L_cell {n : Nat} {f : Nat → Int} {w : List MC} {al : Bool} (hn : n ≤ 260) {k : Int} (h_k : 0 ≤ k ∧ k < 20) : G M_L_cell (some (n, f)) al al 0 (g_pad (mL M_L_cell) [vR SCR, vI k]) [] w 0 0 (dt (some (vI (cellv n f k))) w) := by
  show G _ _ _ _ 0 [some (vR SCR), some (vI k)] [] _ _ _ _
  refine g_iload_n (i := 1) (pc := 0) dL_cell_0 rfl rfl ?_
  refine g_aload_n (i := 0) (pc := 1) dL_cell_1 rfl rfl ?_
  refine g_slen (pc := 2) rfl dL_cell_2 ?_
  refine g_c_ge (tgt := 12) (pc := 3) dL_cell_3 (by omega) (by decide) (fun c3 => ?_) (fun c3 => ?_)
  · refine g_ldc (n := 1541459225) (pc := 12) co_L_7 dL_cell_12 rfl ?_
    refine g_iload_n (i := 1) (pc := 14) dL_cell_14 rfl rfl ?_
    refine g_iconst (pc := 15) dL_cell_15 ?_
    refine g_iadd (pc := 16) dL_cell_16 ?_
    refine g_imul (pc := 17) dL_cell_17 ?_
    refine g_ldc (n := 792403069) (pc := 18) co_L_8 dL_cell_18 rfl ?_
    refine g_iadd (pc := 20) dL_cell_20 ?_
    refine g_iret (pc := 21) rfl dL_cell_21 (fun h => h) ?_
    exact dt_i (by unfold cellv; rw [if_neg (by omega)]) rfl
  · refine g_aload_n (i := 0) (pc := 6) dL_cell_6 rfl rfl ?_
    refine g_iload_n (i := 1) (pc := 7) dL_cell_7 rfl rfl ?_
    refine g_sld (pc := 8) rfl dL_cell_8 (by omega) ?_
    refine g_goto (tgt := 21) (pc := 9) dL_cell_9 (by decide) ?_
    refine g_iret (pc := 21) rfl dL_cell_21 (fun h => h) ?_
    exact dt_i (by unfold cellv; rw [if_pos (by omega)]) rfl
set_option maxRecDepth 20000 in
set_option maxHeartbeats 400000 in
theorem t_L_low {w : List MC} {al : Bool} {v n : Int} (h_n : 0 < n ∧ n < 2147483648) : GM M_L_low al [vI v, vI n] w 0 0 (dt (some (vI (lowv v n))) w) := by
  show G _ none _ _ 0 [some (vI v), some (vI n)] [] _ _ _ _
  have hp := b_andp v
  refine g_iload_n (i := 0) (pc := 0) dL_low_0 rfl rfl ?_
  refine g_ldc (n := 2147483647) (pc := 1) co_L_9 dL_low_1 rfl ?_
  refine g_iand (pc := 3) dL_low_3 ?_
  refine g_iload_n (i := 1) (pc := 4) dL_low_4 rfl rfl ?_
  refine g_irem (pc := 5) dL_low_5 (by omega) (by omega) ?_
  refine g_iret (pc := 6) rfl dL_low_6 (fun h => h) ?_
  exact dt_i rfl rfl
end CE9
