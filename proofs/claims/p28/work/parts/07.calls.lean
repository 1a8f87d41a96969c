/-! CALLS, what is made, throws and catches -/
section GCA
variable {M : MT} {scr : Option (Nat × (Nat → Int))} {al alE : Bool} {pc : Nat} {L : List (Option MV)} {S : List MV} {w : List MC} {bc bs : Nat} {Q : (Option MV) ⊕ String → List MC → Prop}
def g_sz : List MV → Nat
  | [] => 0
  | .inr (.inl _) :: vs => 2 + g_sz vs
  | _ :: vs => 1 + g_sz vs
theorem g_cats {ad : Nat → Nat} : ∀ (S : List MV), ((S.map (g_V ad)).map fun v => v.category).sum = g_sz S := by
  intro S
  induction S with
  | nil => rfl
  | cons v S ih =>
    rw [List.map_cons, List.map_cons, List.sum_cons, ih]
    rcases v with z | z | _ | r <;> rfl
/-- what a call needs of the callee: its words; V: on an object of its own class, S: static, I: a constructor -/
def g_ok (M : MT) : Prop := plainName (mY M).cls = true ∧ (if mH M = [] then Cond.code (mY M) (mC M) (mL M) (mR M) else Cond.codeWith (mY M) (mC M) (mL M) (mR M) (mH M)) ∈ g_WS ∧ Cond.initialized (mY M).cls ∈ g_WS ∧ ((mY M).cls ≠ "java/lang/invoke/MethodHandle" ∧ (mY M).cls ≠ "java/lang/invoke/VarHandle")
def g_okV (M : MT) (n : Nat) : Prop := g_ok M ∧ Cond.instanceMethod (mY M) ∈ g_WS ∧ Cond.selects (mY M).cls (mY M) (mY M) ∈ g_WS ∧ (parseMethodDescriptor (mY M).desc).map (fun d => d.parameters.length) = some n
def g_okS (M : MT) (n : Nat) : Prop := g_ok M ∧ Cond.static (mY M) ∈ g_WS ∧ (parseMethodDescriptor (mY M).desc).map (fun d => d.parameters.length) = some n
def g_okI (M : MT) (n : Nat) : Prop := g_ok M ∧ Cond.instanceMethod (mY M) ∈ g_WS ∧ (mY M).name = "<init>" ∧ mR M = none ∧ (parseMethodDescriptor (mY M).desc).map (fun d => d.parameters.length) = some n
section
variable {D : va_G} {cA : Nat → ClassId} {ad : Nat → Nat} {base : Nat} {A : Nat → Prop} {p : Program} {l : Launch} {e : Env} {R : Room} {s : State} {m : MethodId} {args : Array Value} {below : List Frame} {meth : Method} {c : Code} {H : Heap} {locs : List Loc} {cells slots mc ms : Nat} {ls : Array Slot}
theorem g_goodW (hts : ∀ w ∈ g_WS, w.before args s = true) {wd : Cond} (h : wd ∈ g_WS) : ∀ (a' : Array Value) (U : State), s.WarmedH U.vm → wd.before a' U = true := fun a' U hW => word_at hW (g_good h) (hts _ h)
theorem g_pws {Mj : MT} (hts : ∀ w ∈ g_WS, w.before args s = true) (hok : g_ok Mj) : ∀ w ∈ g_ws Mj, ∀ (a' : Array Value) (U : State), s.WarmedH U.vm → w.before a' U = true := by
  intro wd hw
  unfold g_ws at hw
  rcases List.mem_cons.mp hw with h | h
  · rw [h]; exact g_goodW hts hok.2.1
  · exact g_goodW hts h
theorem g_blind {as : List MV} {sz : Nat} : FrameBlind (g_Pc al D cA ad base sz as w) := by
  intro a U g mk h
  obtain ⟨q0, q1, q2, q3, q4, q5, q6⟩ := h
  exact ⟨q0, q1, q2, va_K.moved (u := U) (U := U.calling g mk a) (Vm.Alike.refl U.vm) q3, q4, q5, q6.called g mk a⟩
theorem g_pre {as : List MV} (fx : G_fx M scr p l R s m args meth c ad A mc ms) (dy : G_dy al D cA ad base A s H locs cells slots mc ms w bc bs) : ∀ U : State, U.heap = H → s.WarmedH U.vm → g_Pc al D cA ad base H.size as w (as.map (g_V ad)).toArray U := by
  obtain ⟨f1, f2, f3, f4, f5, f6, f7, f8, f9, f10, f11, f12, f13, f14⟩ := fx
  obtain ⟨d1, d2, d3, d4, d5, d6, d7⟩ := dy
  intro U hU hW
  refine ⟨rfl, by rw [hU], by rw [hU]; exact d1, va_K.moved hW.alike d2, d3.weaken (fun _ _ _ _ => trivial), d5.1, ?_⟩
  refine f13.moved (H := H) hW (fun a h1 h2 => d4.2.1 a h1 h2) ?_ hU
  intro q hq
  rcases hq with ⟨k, x, h⟩ | h
  · exact d3.2 k _ h
  · exact f12 q (Nat.le_trans d4.1 h)
theorem g_run {as : List MV} {bc' bs' : Nat} {Q' : (Option MV) ⊕ String → List MC → Prop} {st0 : List Value} {a : Array Value} (fx : G_fx M scr p l R s m args meth c ad A mc ms) (dy : G_dy al D cA ad base A s H locs cells slots mc ms w bc bs) (hl : lv_has ls (mL M) (g_L ad 0 L))
    (hr : vx_Run p l e R s m args below meth c H locs cells slots bc' bs' (F0 m pc ls st0) (S.map (g_V ad)) (G_Q al D cA ad base (va_A (g_W cA ad w) H.size) Q' a) (G_X D cA ad base (va_A (g_W cA ad w) H.size) Q') (va_A (g_W cA ad w) H.size))
    (hb : bc' ≤ bc ∧ bs' ≤ bs) (hlen : al = true → ∀ r w', Q' (.inl r) w' → w'.length = w.length + bc')
    (kk : ∀ r w', Q' (.inl r) w' → G M scr al alE (pc + 3) L (r.toList ++ S) w' (bc - bc') (bs - bs') Q)
    (kx : ∀ E w', Q' (.inr E) w' → GX M scr alE pc L S E w' (bc - bc') (bs - bs') Q) : W p l e R s m args below meth c H locs cells slots (vx_MQ below (G_Q alE D cA ad base A Q) (G_X D cA ad base A Q) args s mc ms A) (F0 m pc ls st0) := by
  obtain ⟨f1, f2, f3, f4, f5, f6, f7, f8, f9, f10, f11, f12, f13, f14⟩ := id fx
  obtain ⟨d1, d2, d3, d4, ⟨d5, d5'⟩, d6, d7⟩ := id dy
  have hA : ∀ q, va_A (g_W cA ad w) H.size q → A q := by
    intro q hq
    rcases hq with ⟨k, x, h⟩ | h
    · exact d3.2 k _ h
    · exact f12 q (Nat.le_trans d4.1 h)
  intro T hT X
  rcases hr T hT X with ⟨v, st₀, t, T', L9, h0, X', hL, e1, e2, ⟨⟨r, w', hv, hq, r1, r2, r3, r4⟩, hF⟩, st⟩ | ⟨q, st₀, t, T', L9, E, ce, h0, X', hL, e1, e2, ⟨⟨w', hq, r1, r2, r3, r4⟩, hF⟩, hce, hcv, hcl, st⟩
  · cases hv
    obtain ⟨k1, k2, k3⟩ := vx_keep h0 e1 d4 (fun q _ h => hA q h) hA hL hF
    have dy' : G_dy al D cA ad base A s T'.heap (locs ++ L9) (cells + bc') (slots + bs') mc ms w' (bc - bc') (bs - bs') := by
      refine ⟨by rw [e1]; exact r1, d2, r3.weaken (fun _ _ _ h => hA _ h), k3, ⟨by rw [e1]; exact r4, fun h => ?_⟩, by omega, by omega⟩
      have := d5' h
      rw [hlen h r w' hq]
      omega
    obtain ⟨t2, a1, b1⟩ := kk r w' hq p l e R s m args below meth c D cA ad base A T'.heap (locs ++ L9) (cells + bc') (slots + bs') mc ms ls fx dy' hl T' rfl X'
    refine ⟨t2, st t2 ?_, b1⟩
    cases r <;> exact a1
  · obtain ⟨k1, k2, k3⟩ := vx_keep h0 e1 d4 (fun q _ h => hA q h) hA hL hF
    have dy' : G_dy false D cA ad base A s T'.heap (locs ++ L9) (cells + bc') (slots + bs') mc ms w' (bc - bc') (bs - bs') :=
      ⟨by rw [e1]; exact r1, d2, r3.weaken (fun _ _ _ h => hA _ h), k3, ⟨(fun h => nomatch h), (fun h => nomatch h)⟩, by omega, by omega⟩
    obtain ⟨t2, a1, b1⟩ := kx E w' hq p l e R s m args below meth c D cA ad base A T'.heap (locs ++ L9) (cells + bc') (slots + bs') mc ms ls q ce fx dy' hl (by rw [e1]; exact hce) hcv hcl T' rfl X'
    exact ⟨t2, st.trans a1, b1⟩
end
theorem g_callV {Mj : MT} {idx b n ci : Nat} {fs as : List MV} {bc' bs' : Nat} {Q' : (Option MV) ⊕ String → List MC → Prop} (hok : g_okV Mj n) (hh : mH Mj = []) (hlink : Cond.methodLink (mY M).cls idx (mY Mj) ∈ g_WS) (hd : decode (mC M) pc = .ok (.invokevirtual idx, 3))
    (hw : w[b]? = some (cObj ci fs)) (hc : ∃ (T : u_T) (N : Nat), vwCl[ci]? = some ((mY Mj).cls, T, N)) (hn : as.length = n) (hent : (g_ent (vR b :: as)).length ≤ mL Mj) (hroom : mF Mj + 1 ≤ mF M ∧ 8 + (mL Mj + 11) + mO Mj ≤ mO M) (hsz : g_sz S ≤ 8)
    (hb : bc' ≤ bc ∧ bs' ≤ bs) (hj : GM Mj al (vR b :: as) w bc' bs' Q') (hlen : al = true → ∀ r w', Q' (.inl r) w' → w'.length = w.length + bc')
    (kk : ∀ r w', Q' (.inl r) w' → G M scr al alE (pc + 3) L (r.toList ++ S) w' (bc - bc') (bs - bs') Q)
    (kx : ∀ E w', Q' (.inr E) w' → GX M scr alE pc L S E w' (bc - bc') (bs - bs') Q) : G M scr al alE pc L (as.reverse ++ vR b :: S) w bc bs Q := by
  intro p l e R s m args below meth c D cA ad base A H locs cells slots mc ms ls fx dy hl
  obtain ⟨f1, f2, f3, f4, f5, f6, f7, f8, f9, f10, ⟨g1, g2, g3, g4⟩, f12, f13, f14⟩ := id fx
  obtain ⟨d1, d2, d3, d4, d5, d6, d7⟩ := id dy
  obtain ⟨hok', o1, o2, o3⟩ := hok
  obtain ⟨p1, p2, p3, p4⟩ := id hok'
  obtain ⟨T9, N9, hc9⟩ := hc
  have hcode : Cond.code (mY Mj) (mC Mj) (mL Mj) (mR Mj) ∈ g_WS := by rw [if_pos hh] at p2; exact p2
  have hM := g_met (l := l) f2 hent p1 D cA ad base H.size hj
  have hcat := g_cats (ad := ad) S
  refine g_run (bc' := bc') (bs' := bs') (Q' := Q') (as := vR b :: as) fx dy hl (vx_runV (C := (mY Mj).cls) (b := ad b) (As := as.map (g_V ad)) (rest := S.map (g_V ad)) (n := n) ⟨f1, f3, f4, f9, f10⟩ hM ⟨⟨rfl, rfl, by rw [g1]; exact hroom.1, by rw [g2]; exact hroom.2, g_pws f10 hok', by rw [g_ws_code hh]; exact List.mem_cons_self, f10 _ hcode, f10 _ p3, p4, fun sig h => ?_, f10 _ hlink⟩, f10 _ o1, f10 _ o2⟩
    ⟨g_blind, va_recv d2 d1 hc9 (g_W_at hw), g_pre (as := vR b :: as) fx dy⟩ rfl (by rw [List.length_map]; exact hn) hl.1 ?_ (by show 2 * 0 + _ ≤ 8; rw [hcat]; omega) hd ⟨by omega, by omega⟩) hb hlen kk kx
  · rw [h] at o3
    exact (Option.some.inj o3).symm
  · show (as.reverse ++ vR b :: S).map (g_V ad) = (as.map (g_V ad)).reverse ++ .ref (ad b) :: S.map (g_V ad)
    rw [List.map_append, List.map_reverse]
    rfl
theorem g_callS {Mj : MT} {idx n : Nat} {as : List MV} {bc' bs' : Nat} {Q' : (Option MV) ⊕ String → List MC → Prop} (hok : g_okS Mj n) (hh : mH Mj = []) (hlink : Cond.methodLink (mY M).cls idx (mY Mj) ∈ g_WS) (hd : decode (mC M) pc = .ok (.invokestatic idx, 3))
    (hn : as.length = n) (hent : (g_ent as).length ≤ mL Mj) (hroom : mF Mj + 1 ≤ mF M ∧ 8 + (mL Mj + 11) + mO Mj ≤ mO M) (hsz : g_sz S ≤ 8)
    (hb : bc' ≤ bc ∧ bs' ≤ bs) (hj : GM Mj al as w bc' bs' Q') (hlen : al = true → ∀ r w', Q' (.inl r) w' → w'.length = w.length + bc')
    (kk : ∀ r w', Q' (.inl r) w' → G M scr al alE (pc + 3) L (r.toList ++ S) w' (bc - bc') (bs - bs') Q)
    (kx : ∀ E w', Q' (.inr E) w' → GX M scr alE pc L S E w' (bc - bc') (bs - bs') Q) : G M scr al alE pc L (as.reverse ++ S) w bc bs Q := by
  intro p l e R s m args below meth c D cA ad base A H locs cells slots mc ms ls fx dy hl
  obtain ⟨f1, f2, f3, f4, f5, f6, f7, f8, f9, f10, ⟨g1, g2, g3, g4⟩, f12, f13, f14⟩ := id fx
  obtain ⟨d1, d2, d3, d4, d5, d6, d7⟩ := id dy
  obtain ⟨hok', o1, o3⟩ := hok
  obtain ⟨p1, p2, p3, p4⟩ := id hok'
  have hcode : Cond.code (mY Mj) (mC Mj) (mL Mj) (mR Mj) ∈ g_WS := by rw [if_pos hh] at p2; exact p2
  have hM := g_met (l := l) f2 hent p1 D cA ad base H.size hj
  have hcat := g_cats (ad := ad) S
  refine g_run (bc' := bc') (bs' := bs') (Q' := Q') (as := as) fx dy hl (vx_runS (As := as.map (g_V ad)) (rest := S.map (g_V ad)) (n := n) ⟨f1, f3, f4, f9, f10⟩ hM ⟨⟨rfl, rfl, by rw [g1]; exact hroom.1, by rw [g2]; exact hroom.2, g_pws f10 hok', by rw [g_ws_code hh]; exact List.mem_cons_self, f10 _ hcode, f10 _ p3, p4, fun sig h => ?_, f10 _ hlink⟩, f10 _ o1⟩
    ⟨g_blind, g_pre (as := as) fx dy⟩ rfl (by rw [List.length_map]; exact hn) hl.1 ?_ (by show 2 * 0 + _ ≤ 8; rw [hcat]; omega) hd ⟨by omega, by omega⟩) hb hlen kk kx
  · rw [h] at o3
    exact (Option.some.inj o3).symm
  · show (as.reverse ++ S).map (g_V ad) = (as.map (g_V ad)).reverse ++ S.map (g_V ad)
    rw [List.map_append, List.map_reverse]
theorem g_callSX {Mj : MT} {idx n : Nat} {as : List MV} {bc' bs' : Nat} {Q' : (Option MV) ⊕ String → List MC → Prop} (hok : g_okS Mj n) (hh : mH Mj ≠ []) (hlink : Cond.methodLink (mY M).cls idx (mY Mj) ∈ g_WS) (hd : decode (mC M) pc = .ok (.invokestatic idx, 3))
    (hn : as.length = n) (hent : (g_ent as).length ≤ mL Mj) (hroom : mF Mj + 1 ≤ mF M ∧ 8 + (mL Mj + 11) + mO Mj ≤ mO M) (hsz : g_sz S ≤ 8)
    (hb : bc' ≤ bc ∧ bs' ≤ bs) (hj : GM Mj al as w bc' bs' Q') (hlen : al = true → ∀ r w', Q' (.inl r) w' → w'.length = w.length + bc')
    (kk : ∀ r w', Q' (.inl r) w' → G M scr al alE (pc + 3) L (r.toList ++ S) w' (bc - bc') (bs - bs') Q)
    (kx : ∀ E w', Q' (.inr E) w' → GX M scr alE pc L S E w' (bc - bc') (bs - bs') Q) : G M scr al alE pc L (as.reverse ++ S) w bc bs Q := by
  intro p l e R s m args below meth c D cA ad base A H locs cells slots mc ms ls fx dy hl
  obtain ⟨f1, f2, f3, f4, f5, f6, f7, f8, f9, f10, ⟨g1, g2, g3, g4⟩, f12, f13, f14⟩ := id fx
  obtain ⟨d1, d2, d3, d4, d5, d6, d7⟩ := id dy
  obtain ⟨hok', o1, o3⟩ := hok
  obtain ⟨p1, p2, p3, p4⟩ := id hok'
  have hcode : Cond.codeWith (mY Mj) (mC Mj) (mL Mj) (mR Mj) (mH Mj) ∈ g_WS := by rw [if_neg hh] at p2; exact p2
  have hM := g_met (l := l) f2 hent p1 D cA ad base H.size hj
  have hcat := g_cats (ad := ad) S
  refine g_run (bc' := bc') (bs' := bs') (Q' := Q') (as := as) fx dy hl (vx_runSX (hh := mH Mj) (As := as.map (g_V ad)) (rest := S.map (g_V ad)) (n := n) ⟨f1, f3, f4, f9, f10⟩ hM ⟨⟨rfl, rfl, by rw [g1]; exact hroom.1, by rw [g2]; exact hroom.2, g_pws f10 hok', by rw [g_ws_codeW hh]; exact List.mem_cons_self⟩, f10 _ hcode, f10 _ p3, p4, fun sig h => ?_, f10 _ hlink, f10 _ o1⟩
    ⟨g_blind, g_pre (as := as) fx dy⟩ rfl (by rw [List.length_map]; exact hn) hl.1 ?_ (by show 2 * 0 + _ ≤ 8; rw [hcat]; omega) hd ⟨by omega, by omega⟩) hb hlen kk kx
  · rw [h] at o3
    exact (Option.some.inj o3).symm
  · show (as.reverse ++ S).map (g_V ad) = (as.map (g_V ad)).reverse ++ S.map (g_V ad)
    rw [List.map_append, List.map_reverse]
end GCA
