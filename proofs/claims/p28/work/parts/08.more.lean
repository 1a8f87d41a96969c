/-! constructors, what is made, the library's own, throws and catches, the script -/
section GMO
variable {M : MT} {scr : Option (Nat × (Nat → Int))} {al alE : Bool} {pc : Nat} {L : List (Option MV)} {S : List MV} {w : List MC} {bc bs : Nat} {Q : (Option MV) ⊕ String → List MC → Prop}
theorem g_metI {Mj : MT} {as : List MV} {Q' : (Option MV) ⊕ String → List MC → Prop} {l : Launch} (hl : l.stackTraces = false) (hn : (g_ent as).length ≤ mL Mj) (hy : plainName (mY Mj).cls = true) (D : va_G) (cA : Nat → ClassId) (ad : Nat → Nat) (base sz : Nat)
    (hx : ∀ E w', ¬ Q' (.inr E) w') (k : GM Mj al as w bc bs Q') : Met l (mY Mj) (g_ws Mj) (g_rm Mj bc bs) (g_Pc al D cA ad base sz as w) (G_Q al D cA ad base (va_A (g_W cA ad w) sz) Q') bc bs (va_A (g_W cA ad w) sz) := by
  refine Jvm.Free.MetFree.mono (g_met hl hn hy D cA ad base sz k) (fun _ _ h => h) (fun _ _ _ _ _ h => h) ?_
  intro a s o t _ h
  rcases h with h | ⟨q, -, E, ce, L9, ⟨⟨w', hq, -⟩, -⟩, -⟩
  · exact h
  · exact (hx E w' hq).elim
section
variable {D : va_G} {cA : Nat → ClassId} {ad : Nat → Nat} {base : Nat} {A : Nat → Prop} {p : Program} {l : Launch} {e : Env} {R : Room} {s : State} {m : MethodId} {args : Array Value} {below : List Frame} {meth : Method} {c : Code} {H : Heap} {locs : List Loc} {cells slots mc ms : Nat} {ls : Array Slot}
theorem g_runI {bc' bs' : Nat} {Q' : (Option MV) ⊕ String → List MC → Prop} {st0 : List Value} {a : Array Value} (fx : G_fx M scr p l R s m args meth c ad A mc ms) (dy : G_dy al D cA ad base A s H locs cells slots mc ms w bc bs) (hl : lv_has ls (mL M) (g_L ad 0 L))
    (hr : va_Run p l e R s m args below meth c H locs cells slots bc' bs' (F0 m pc ls st0) (S.map (g_V ad)) (G_Q al D cA ad base (va_A (g_W cA ad w) H.size) Q' a) (va_A (g_W cA ad w) H.size))
    (hb : bc' ≤ bc ∧ bs' ≤ bs) (hlen : al = true → ∀ r w', Q' (.inl r) w' → w'.length = w.length + bc')
    (kk : ∀ r w', Q' (.inl r) w' → G M scr al alE (pc + 3) L (r.toList ++ S) w' (bc - bc') (bs - bs') Q) : W p l e R s m args below meth c H locs cells slots (vx_MQ below (G_Q alE D cA ad base A Q) (G_X D cA ad base A Q) args s mc ms A) (F0 m pc ls st0) := by
  obtain ⟨f1, f2, f3, f4, f5, f6, f7, f8, f9, f10, f11, f12, f13, f14⟩ := id fx
  obtain ⟨d1, d2, d3, d4, ⟨d5, d5'⟩, d6, d7⟩ := id dy
  have hA : ∀ q, va_A (g_W cA ad w) H.size q → A q := by
    intro q hq
    rcases hq with ⟨k, x, h⟩ | h
    · exact d3.2 k _ h
    · exact f12 q (Nat.le_trans d4.1 h)
  intro T hT X
  obtain ⟨v, st₀, t, T', L9, h0, X', hL, e1, e2, ⟨⟨r, w', hv, hq, r1, r2, r3, r4⟩, hF⟩, st⟩ := hr T hT X
  cases hv
  obtain ⟨k1, k2, k3⟩ := vx_keep h0 e1 d4 (fun q _ h => hA q h) hA hL hF
  have dy' : G_dy al D cA ad base A s T'.heap (locs ++ L9) (cells + bc') (slots + bs') mc ms w' (bc - bc') (bs - bs') := by
    refine ⟨by rw [e1]; exact r1, d2, r3.weaken (fun _ _ _ h => hA _ h), k3, ⟨by rw [e1]; exact r4, fun h => ?_⟩, by omega, by omega⟩
    have := d5' h
    rw [hlen h r w' hq]
    omega
  obtain ⟨t2, a1, b1⟩ := kk r w' hq p l e R s m args below meth c D cA ad base A T'.heap (locs ++ L9) (cells + bc') (slots + bs') mc ms ls fx dy' hl T' rfl X'
  refine ⟨t2, st t2 ?_, b1⟩
  cases r <;> exact a1
end
theorem g_callI {Mj : MT} {idx b n : Nat} {as : List MV} {bc' bs' : Nat} {Q' : (Option MV) ⊕ String → List MC → Prop} (hok : g_okI Mj n) (hh : mH Mj = []) (hlink : Cond.methodLink (mY M).cls idx (mY Mj) ∈ g_WS) (hd : decode (mC M) pc = .ok (.invokespecial idx, 3))
    (hn : as.length = n) (hent : (g_ent (vR b :: as)).length ≤ mL Mj) (hroom : mF Mj + 1 ≤ mF M ∧ 8 + (mL Mj + 11) + mO Mj ≤ mO M) (hsz : g_sz S ≤ 8)
    (hb : bc' ≤ bc ∧ bs' ≤ bs) (hj : GM Mj al (vR b :: as) w bc' bs' Q') (hx : ∀ E w', ¬ Q' (.inr E) w') (hlen : al = true → ∀ r w', Q' (.inl r) w' → w'.length = w.length + bc')
    (kk : ∀ r w', Q' (.inl r) w' → G M scr al alE (pc + 3) L (r.toList ++ S) w' (bc - bc') (bs - bs') Q) : G M scr al alE pc L (as.reverse ++ vR b :: S) w bc bs Q := by
  intro p l e R s m args below meth c D cA ad base A H locs cells slots mc ms ls fx dy hl
  obtain ⟨f1, f2, f3, f4, f5, f6, f7, f8, f9, f10, ⟨g1, g2, g3, g4⟩, f12, f13, f14⟩ := id fx
  obtain ⟨d1, d2, d3, d4, d5, d6, d7⟩ := id dy
  obtain ⟨hok', o1, o2, o4, o3⟩ := hok
  obtain ⟨p1, p2, p3, p4⟩ := id hok'
  have hcode : Cond.code (mY Mj) (mC Mj) (mL Mj) (mR Mj) ∈ g_WS := by rw [if_pos hh] at p2; exact p2
  have hM := g_metI (l := l) f2 hent p1 D cA ad base H.size hx hj
  have hcat := g_cats (ad := ad) S
  rw [o4] at hcode
  refine g_runI (bc' := bc') (bs' := bs') (Q' := Q') fx dy hl (va_runI (b := ad b) (As := as.map (g_V ad)) (rest := S.map (g_V ad)) (n := n) ⟨f1, f3, f4, f9, f10⟩ hM ⟨⟨rfl, rfl, by rw [g1]; exact hroom.1, by rw [g2]; exact hroom.2, g_pws f10 hok', by rw [g_ws_code hh, o4]; exact List.mem_cons_self, f10 _ hcode, f10 _ p3, p4, fun sig h => ?_, f10 _ hlink⟩, o2, f10 _ o1⟩
    ⟨g_blind, g_pre (as := vR b :: as) fx dy⟩ rfl (by rw [List.length_map]; exact hn) hl.1 ?_ (by show 2 * 0 + _ ≤ 8; rw [hcat]; omega) hd ⟨by omega, by omega⟩) hb hlen kk
  · rw [h] at o3
    exact (Option.some.inj o3).symm
  · show (as.reverse ++ vR b :: S).map (g_V ad) = (as.map (g_V ad)).reverse ++ .ref (ad b) :: S.map (g_V ad)
    rw [List.map_append, List.map_reverse]
    rfl
/-- a private constructor of a nest mate -/
theorem g_callIN {Mj : MT} {idx b n : Nat} {as : List MV} {host : String} {bc' bs' : Nat} {Q' : (Option MV) ⊕ String → List MC → Prop} (hok : g_okI Mj n) (hh : mH Mj = []) (hlink : ((mY M).cls, idx, mY Mj, host) ∈ g_nest) (hd : decode (mC M) pc = .ok (.invokespecial idx, 3))
    (hn : as.length = n) (hent : (g_ent (vR b :: as)).length ≤ mL Mj) (hroom : mF Mj + 1 ≤ mF M ∧ 8 + (mL Mj + 11) + mO Mj ≤ mO M) (hsz : g_sz S ≤ 8)
    (hb : bc' ≤ bc ∧ bs' ≤ bs) (hj : GM Mj al (vR b :: as) w bc' bs' Q') (hx : ∀ E w', ¬ Q' (.inr E) w') (hlen : al = true → ∀ r w', Q' (.inl r) w' → w'.length = w.length + bc')
    (kk : ∀ r w', Q' (.inl r) w' → G M scr al alE (pc + 3) L (r.toList ++ S) w' (bc - bc') (bs - bs') Q) : G M scr al alE pc L (as.reverse ++ vR b :: S) w bc bs Q := by
  intro p l e R s m args below meth c D cA ad base A H locs cells slots mc ms ls fx dy hl
  obtain ⟨f1, f2, f3, f4, f5, f6, f7, f8, f9, f10, ⟨g1, g2, g3, g4⟩, f12, f13, f14⟩ := id fx
  obtain ⟨d1, d2, d3, d4, d5, d6, d7⟩ := id dy
  obtain ⟨hok', o1, o2, o4, o3⟩ := hok
  obtain ⟨p1, p2, p3, p4⟩ := id hok'
  have hcode : Cond.code (mY Mj) (mC Mj) (mL Mj) (mR Mj) ∈ g_WS := by rw [if_pos hh] at p2; exact p2
  have hM := g_metI (l := l) f2 hent p1 D cA ad base H.size hx hj
  have hcat := g_cats (ad := ad) S
  rw [o4] at hcode
  refine g_runI (bc' := bc') (bs' := bs') (Q' := Q') fx dy hl (va_runIN (host := host) (b := ad b) (As := as.map (g_V ad)) (rest := S.map (g_V ad)) (n := n) ⟨f1, f3, f4, f9, f10⟩ hM ⟨⟨⟨rfl, rfl, by rw [g1]; exact hroom.1, by rw [g2]; exact hroom.2, g_pws f10 hok', by rw [g_ws_code hh, o4]; exact List.mem_cons_self⟩, f10 _ hcode, f10 _ p3, p4, fun sig h => ?_, va_Nw.use rfl (f13.2.2.2.2.1 _ hlink)⟩, o2, f10 _ o1⟩
    ⟨g_blind, g_pre (as := vR b :: as) fx dy⟩ rfl (by rw [List.length_map]; exact hn) hl.1 ?_ (by show 2 * 0 + _ ≤ 8; rw [hcat]; omega) hd ⟨by omega, by omega⟩) hb hlen kk
  · rw [h] at o3
    exact (Option.some.inj o3).symm
  · show (as.reverse ++ vR b :: S).map (g_V ad) = (as.map (g_V ad)).reverse ++ .ref (ad b) :: S.map (g_V ad)
    rw [List.map_append, List.map_reverse]
    rfl
/-- Object.<init> -/
theorem g_obj {idx a : Nat} (h1 : Cond.methodLink (mY M).cls idx objectInit ∈ g_WS) (h2 : Cond.instanceMethod objectInit ∈ g_WS) (h3 : Cond.code objectInit ⟨#[0xb1]⟩ 1 none ∈ g_WS) (hd : decode (mC M) pc = .ok (.invokespecial idx, 3)) (hF : 1 ≤ mF M) (hO : g_sz S + 12 ≤ mO M) (kk : G M scr al alE (pc + 3) L S w bc bs Q) : G M scr al alE pc L (vR a :: S) w bc bs Q := by
  intro p l e R s m args below meth c D cA ad base A H locs cells slots mc ms ls fx dy hl
  obtain ⟨f1, f2, f3, f4, f5, f6, f7, f8, f9, f10, ⟨g1, g2, g3, g4⟩, f12, f13, f14⟩ := id fx
  have hcat := g_cats (ad := ad) S
  exact W.objInit (g := F0 m pc ls (.ref (ad a) :: S.map (g_V ad))) f1 f3 f9 (f10 _ h1) (f10 _ h2) (f10 _ h3) rfl (by rw [f4]; exact hl.1) rfl hd (by rw [g1]; exact hF) (by show 2 * 0 + _ + 12 ≤ _; rw [hcat, g2]; omega) (kk p l e R s m args below meth c D cA ad base A H locs cells slots mc ms ls fx dy hl)
/-! what is made -/
def g_N (own : String) (ci idx n : Nat) (fs : List MV) : Prop := ∃ (C : String) (T : u_T) (N : Nat) (ty0 : Nat → FieldType), vwCl[ci]? = some (C, T, N) ∧ (∀ wd ∈ u_ws C T N, wd ∈ g_WS) ∧ (∀ j, j < N → parseFieldDescriptor (T j).2.2.1 = some (ty0 j)) ∧ Cond.classLink own idx C ∈ g_WS ∧ Cond.instantiable C N ∈ g_WS ∧ Cond.initialized C ∈ g_WS ∧ N = n ∧
  ∀ ad : Nat → Nat, ∀ j, j < N → defaultValue (ty0 j) = vp_V (fs.map (g_V ad)) j
section
variable {D : va_G} {cA : Nat → ClassId} {ad : Nat → Nat} {base : Nat} {A : Nat → Prop} {p : Program} {l : Launch} {e : Env} {R : Room} {s : State} {m : MethodId} {args : Array Value} {below : List Frame} {meth : Method} {c : Code} {H H1 : Heap} {locs : List Loc} {cells slots mc ms : Nat} {ls : Array Slot}
theorem g_pushed {cl : MC} {n : Nat} (fx : G_fx M scr p l R s m args meth c ad A mc ms) (dy : G_dy true D cA ad base A s H locs cells slots mc ms w (bc + 1) (bs + n)) (hlen : w.length + 1 < SCR) (hcell : va_at D vwCl (ad w.length, g_C cA ad cl) H1) (z1 : H1.size = H.size + 1) (o1 : ∀ q, q < H.size → H1[q]? = H[q]?) :
    ad w.length = H.size ∧ G_dy true D cA ad base A s H1 locs (cells + 1) (slots + n) mc ms (w ++ [cl]) bc bs := by
  obtain ⟨f1, f2, f3, f4, f5, f6, f7, f8, f9, f10, f11, f12, f13, f14⟩ := id fx
  obtain ⟨d1, d2, d3, d4, ⟨d5, d5'⟩, d6, d7⟩ := id dy
  obtain ⟨a1, a2, a3⟩ := d5 rfl
  have a4 := d5' rfl
  have ha : ad w.length = H.size := by rw [a3 _ (by omega), a1]
  refine ⟨ha, ?_, d2, ?_, ⟨by rw [z1]; exact Nat.le_trans d4.1 (Nat.le_succ _), fun x h1 h2 => (o1 x (Nat.lt_of_lt_of_le h1 d4.1)).trans (d4.2.1 x h1 h2), d4.2.2⟩, ⟨fun _ => ⟨?_, ?_, a3⟩, fun _ => ?_⟩, by omega, by omega⟩
  · rw [g_W_app]
    refine va_P.app (d1.kept fun k x hx => o1 x.1 ((d1 k x hx).lt)) (fun k x hx => ?_)
    have hz : k < 1 := (List.getElem?_eq_some_iff.mp hx).1
    rw [show k = 0 by omega] at hx
    cases hx
    exact hcell
  · rw [g_W_app]
    exact d3.push d1 ha (f12 _ (by rw [ha]; exact d4.1))
  · rw [z1, List.length_append, a1]; rfl
  · rw [List.length_append]; exact hlen
  · rw [List.length_append]; show _ + (cells + 1) = base + (w.length + 1); omega
end
theorem g_new {ci idx n : Nat} {fs : List MV} (hN : g_N (mY M).cls ci idx n fs) (hd : decode (mC M) pc = .ok (.new idx, 3)) (hlen : w.length + 1 < SCR) (kk : G M scr true alE (pc + 3) L (vR w.length :: S) (w ++ [cObj ci fs]) bc bs Q) : G M scr true alE pc L S w (bc + 1) (bs + n) Q := by
  intro p l e R s m args below meth c D cA ad base A H locs cells slots mc ms ls fx dy hl
  obtain ⟨f1, f2, f3, f4, f5, f6, f7, f8, f9, f10, ⟨g1, g2, g3, g4⟩, f12, f13, f14⟩ := id fx
  obtain ⟨d1, d2, d3, d4, ⟨d5, d5'⟩, d6, d7⟩ := id dy
  obtain ⟨C, T, N, ty0, h1, h2, h3, h4, h5, h6, h7, h8⟩ := hN
  subst h7
  have hKn := d2.1 ci _ h1
  refine W.newcK (g := F0 m pc ls (S.map (g_V ad))) f1 f3 f9 (f10 _ h4) (f10 _ h5) (f10 _ h6) rfl hd (by omega) (by omega) hKn.2.1 rfl fun H1 kC hkC e1 z1 o1 => ?_
  obtain ⟨a1, a2, a3⟩ := d5 rfl
  have ha : ad w.length = H.size := by rw [a3 _ (by omega), a1]
  obtain ⟨-, dy'⟩ := g_pushed (cl := cObj ci fs) fx dy hlen (by rw [ha]; exact ⟨_, h1, (u_born ty0 f10 h2 hKn hkC e1 h3).to (h8 ad)⟩) z1 o1
  have := kk p l e R s m args below meth c D cA ad base A H1 locs (cells + 1) (slots + N) mc ms ls fx dy' hl
  rw [← ha]
  exact this
theorem g_newa {at9 : ArrayType} {t : Nat} {ty : FieldType} {z : Int} {n : Nat} (hty : newarray.typeOf at9 = ty) (hw : Cond.arrayClass ty ∈ g_WS) (ht : ∀ cA, (g_tys cA)[t]? = some (cA t, ty)) (hc : ∀ cA ad, vp_cell (cA t) (n, if t = 3 then .inr (.inl fun _ => Int64.ofInt 0) else .inl fun _ => Int32.ofInt 0) = arrV (cA t) n (fun _ => defaultValue ty) ∧ g_C cA ad (cArr t n fun _ => 0) = .inl (cA t, n, if t = 3 then .inr (.inl fun _ => Int64.ofInt 0) else .inl fun _ => Int32.ofInt 0))
    (hra : ∀ (U : State) (cA : ClassId), va_RA U cA ty → U.vm.findClass ("[" ++ ty.toString) = some cA) (hd : decode (mC M) pc = .ok (.newarray at9, 2)) (hz : 0 ≤ z ∧ z < 2147483648) (hn : z.toNat = n) (hbytes : n * componentBytes ty ≤ 536870912) (hlen : w.length + 1 < SCR)
    (kk : G M scr true alE (pc + 2) L (vR w.length :: S) (w ++ [cArr t n fun _ => 0]) bc bs Q) : G M scr true alE pc L (vI z :: S) w (bc + 1) (bs + n) Q := by
  intro p l e R s m args below meth c D cA ad base A H locs cells slots mc ms ls fx dy hl
  obtain ⟨f1, f2, f3, f4, f5, f6, f7, f8, f9, f10, ⟨g1, g2, g3, g4⟩, f12, f13, f14⟩ := id fx
  obtain ⟨d1, d2, d3, d4, ⟨d5, d5'⟩, d6, d7⟩ := id dy
  subst hty
  refine va_newaK (N := n) f1 f3 (f10 _ hw) (g := F0 m pc ls (.int (Int32.ofInt z) :: S.map (g_V ad))) rfl hd rfl ?_ (by rw [g_nc (by omega)]; exact hn) hbytes (by omega) (by omega) rfl fun H1 cB e1 z1 o1 hAr hNm => ?_
  · rw [show (0 : Int32) = Int32.ofInt 0 from rfl, g_lt (by omega) (by omega)]
    omega
  have hB : cB = cA t := Option.some.inj (hNm.symm.trans (hra s _ (d2.2 t _ (ht cA)).2))
  subst hB
  obtain ⟨a1, a2, a3⟩ := d5 rfl
  have ha : ad w.length = H.size := by rw [a3 _ (by omega), a1]
  obtain ⟨-, dy'⟩ := g_pushed (cl := cArr t n fun _ => 0) fx dy hlen (by rw [ha, (hc cA ad).2]; show H1[H.size]? = some (vp_cell _ _); rw [(hc cA ad).1]; exact e1) z1 o1
  have := kk p l e R s m args below meth c D cA ad base A H1 locs (cells + 1) (slots + n) mc ms ls fx dy' hl
  rw [← ha]
  exact this
theorem g_newq {idx : Nat} {z : Int} {n : Nat} (hw : Cond.classLink (mY M).cls idx RX1 ∈ g_WS) (hd : decode (mC M) pc = .ok (.anewarray idx, 3)) (hz : 0 ≤ z ∧ z < 2147483648) (hn : z.toNat = n) (hbytes : n * 4 ≤ 536870912) (hlen : w.length + 1 < SCR)
    (kk : G M scr true alE (pc + 3) L (vR w.length :: S) (w ++ [cRef n fun _ => none]) bc bs Q) : G M scr true alE pc L (vI z :: S) w (bc + 1) (bs + n) Q := by
  intro p l e R s m args below meth c D cA ad base A H locs cells slots mc ms ls fx dy hl
  obtain ⟨f1, f2, f3, f4, f5, f6, f7, f8, f9, f10, ⟨g1, g2, g3, g4⟩, f12, f13, f14⟩ := id fx
  obtain ⟨d1, d2, d3, d4, ⟨d5, d5'⟩, d6, d7⟩ := id dy
  have hnn : (Int32.ofInt z).toNatClampNeg = n := by rw [g_nc (by omega)]; exact hn
  refine W.anew (g := F0 m pc ls (.int (Int32.ofInt z) :: S.map (g_V ad))) f1 f3 f9 (f10 _ hw) (va_AO.use f13.2.2.2.2.2.1) rfl hd rfl ?_ (by rw [hnn]; exact hbytes) (by omega) (by rw [hnn]; omega) fun cB kA comp h1 h2 h3 h4 => ?_
  · rw [show (0 : Int32) = Int32.ofInt 0 from rfl, g_lt (by omega) (by omega)]
    omega
  rw [hnn]
  generalize hH1 : H.push ({ cls := cB, slots := Array.replicate n .null, vm := .none } : Cell) = H1
  have z1 : H1.size = H.size + 1 := by rw [← hH1, Array.size_push]
  have e1 : H1[H.size]? = some (arrV cB n (fun _ => .null)) := by rw [← hH1, Array.getElem?_push_size, ← arrV_new]
  have o1 : ∀ q : Nat, q < H.size → H1[q]? = H[q]? := fun q hq => by rw [← hH1, Array.getElem?_push, if_neg (Nat.ne_of_lt hq)]
  have hB : cB = cA 4 := by
    obtain ⟨kA', comp', q1, q2, q3, q4⟩ := (d2.2 4 _ rfl).2
    exact Option.some.inj (h1.symm.trans q4)
  subst hB
  obtain ⟨a1, a2, a3⟩ := d5 rfl
  have ha : ad w.length = H.size := by rw [a3 _ (by omega), a1]
  obtain ⟨-, dy'⟩ := g_pushed (cl := cRef n fun _ => none) fx dy hlen (by rw [ha]; exact e1) z1 o1
  have := kk p l e R s m args below meth c D cA ad base A H1 locs (cells + 1) (slots + n) mc ms ls fx dy' hl
  rw [← ha]
  exact this
/-! the library's own -/
theorem g_min {idx : Nat} {x y : Int} (h1 : Cond.methodLink (mY M).cls idx Lib.Math.min.name ∈ g_WS) (h2 : Cond.static Lib.Math.min.name ∈ g_WS) (h3 : Cond.initialized "java/lang/Math" ∈ g_WS) (h4 : Cond.code Lib.Math.min.name Lib.Math.min.code 2 (some .int) ∈ g_WS) (hd : decode (mC M) pc = .ok (.invokestatic idx, 3)) (h : (-2147483648 ≤ x ∧ x < 2147483648) ∧ -2147483648 ≤ y ∧ y < 2147483648) (hF : 1 ≤ mF M) (hO : g_sz S + 13 ≤ mO M)
    (kk : G M scr al alE (pc + 3) L (vI (if y < x then y else x) :: S) w bc bs Q) : G M scr al alE pc L (vI y :: vI x :: S) w bc bs Q := by
  intro p l e R s m args below meth c D cA ad base A H locs cells slots mc ms ls fx dy hl
  obtain ⟨f1, f2, f3, f4, f5, f6, f7, f8, f9, f10, ⟨g1, g2, g3, g4⟩, f12, f13, f14⟩ := id fx
  obtain ⟨d1, d2, d3, d4, d5, d6, d7⟩ := id dy
  have hcat := g_cats (ad := ad) S
  refine va_mmin f1 f3 (by rw [f4]; exact hl.1.symm) f9 (f10 _ h1) (f10 _ h2) (f10 _ h3) (f10 _ h4) (by rw [g1]; exact hF) (by rw [hcat, g2]; exact hO) (by omega) (by omega) hd ?_
  refine g_top (v' := .int (Int32.ofInt (if y < x then y else x))) ?_ (kk p l e R s m args below meth c D cA ad base A H locs cells slots mc ms ls fx dy hl)
  by_cases q : y < x
  · rw [if_pos q, if_pos ((g_lt h.2 h.1).mpr q)]
  · rw [if_neg q, if_neg (fun z => q ((g_lt h.2 h.1).mp z))]
theorem g_copy {idx a a0 n0 n1 : Nat} {f g : Nat → Int} {n : Int} {k : Nat} (h1 : Cond.methodLink (mY M).cls idx arraycopyName ∈ g_WS) (h2 : Cond.native arraycopyName ∈ g_WS) (h3 : Cond.static arraycopyName ∈ g_WS) (h4 : Cond.initialized "java/lang/System" ∈ g_WS) (hd : decode (mC M) pc = .ok (.invokestatic idx, 3))
    (hw0 : w[a0]? = some (cArr 0 n0 f)) (hw1 : w[a]? = some (cArr 0 n1 g)) (hn : n = k) (hk : k ≤ n0 ∧ k ≤ n1 ∧ k < 2147483648) (hF : 1 ≤ mF M) (hO : g_sz S + 18 ≤ mO M)
    (kk : G M scr al alE (pc + 3) L S (w.set a (cArr 0 n1 (va_cpy f g 0 0 k))) bc bs Q) : G M scr al alE pc L (vI n :: vI 0 :: vR a :: vI 0 :: vR a0 :: S) w bc bs Q := by
  intro p l e R s m args below meth c D cA ad base A H locs cells slots mc ms ls fx dy hl
  obtain ⟨f1, f2, f3, f4, f5, f6, f7, f8, f9, f10, ⟨g1, g2, g3, g4⟩, f12, f13, f14⟩ := id fx
  obtain ⟨d1, d2, d3, d4, d5, d6, d7⟩ := id dy
  subst hn
  have hcat := g_cats (ad := ad) S
  have h9 := g_stored (e := e) (below := below) (alE := alE) (Q := Q) fx dy hl (List.length_set ..) (g_pos hw1) kk
  rw [g_W_set, g_arr (by decide)] at h9
  have hkk : (Int32.ofInt (k : Int)).toNatClampNeg = k := by rw [g_nc (by omega)]; omega
  have h00 : (Int32.ofInt 0).toNatClampNeg = 0 := rfl
  have hcp : (va_cpy (fun j => Int32.ofInt (f j)) (fun j => Int32.ofInt (g j)) 0 0 k) = fun j => Int32.ofInt (va_cpy f g 0 0 k j) := by
    funext j
    unfold va_cpy
    by_cases q : 0 ≤ j ∧ j < 0 + k
    · rw [if_pos q, if_pos q]
    · rw [if_neg q, if_neg q]
  refine va_copyi f1 f3 (by rw [f4]; exact hl.1.symm) f9 (f10 _ h1) (f10 _ h2) (f10 _ h3) (f10 _ h4) d2 d1 d3 d4 a0 a 0 0 (by rw [g_W_at hw0, g_arr (by decide)]) (by rw [g_W_at hw1, g_arr (by decide)]) rfl rfl rfl (sp := Int32.ofInt 0) (dp := Int32.ofInt 0) (n := Int32.ofInt (k : Int)) (by decide) (by decide) ?_ (by rw [h00, hkk]; omega) (by rw [h00, hkk]; omega) (fun i hi => rfl) (by rw [g1]; exact hF) (by rw [hcat, g2]; exact hO) hd ?_
  · rw [show (0 : Int32) = Int32.ofInt 0 from rfl, g_lt (by omega) (by omega)]
    omega
  · rw [h00, hkk, hcp]
    exact h9
/-! the script -/
theorem g_slen {n : Nat} {f : Nat → Int} (hs : scr = some (n, f)) (hd : decode (mC M) pc = .ok (.arraylength, 1)) (kk : G M scr al alE (pc + 1) L (vI n :: S) w bc bs Q) : G M scr al alE pc L (vR SCR :: S) w bc bs Q := by
  intro p l e R s m args below meth c D cA ad base A H locs cells slots mc ms ls fx dy hl
  obtain ⟨f1, f2, f3, f4, f5, f6, f7, f8, f9, f10, f11, f12, f13, f14⟩ := id fx
  obtain ⟨d1, d2, d3, d4, d5, d6, d7⟩ := id dy
  obtain ⟨q1, q2, q3⟩ := f14 _ hs
  exact va_slen f1 f3 q1 q2 q3 d4 hd (g_top (congrArg Value.int (Int32.ofInt_eq_ofNat).symm) (kk p l e R s m args below meth c D cA ad base A H locs cells slots mc ms ls fx dy hl))
theorem g_sld {n : Nat} {f : Nat → Int} {i : Int} (hs : scr = some (n, f)) (hd : decode (mC M) pc = .ok (.iaload, 1)) (hi : 0 ≤ i ∧ i < n ∧ n < 2147483648) (kk : G M scr al alE (pc + 1) L (vI (f i.toNat) :: S) w bc bs Q) : G M scr al alE pc L (vI i :: vR SCR :: S) w bc bs Q := by
  intro p l e R s m args below meth c D cA ad base A H locs cells slots mc ms ls fx dy hl
  obtain ⟨f1, f2, f3, f4, f5, f6, f7, f8, f9, f10, f11, f12, f13, f14⟩ := id fx
  obtain ⟨d1, d2, d3, d4, d5, d6, d7⟩ := id dy
  obtain ⟨q1, q2, q3⟩ := f14 _ hs
  exact va_sld f1 f3 q1 q2 q3 d4 (g_in hi) hd (g_top (by rw [g_nc (by omega)]; rfl) (kk p l e R s m args below meth c D cA ad base A H locs cells slots mc ms ls fx dy hl))
/-! throws and catches -/
def g_xn : List String := ["java/lang/RuntimeException", "java/lang/Exception"]
/-- an exception E of this package's kind can be made in own: by the entries ik (its class), ic (its constructor) -/
def g_E (own : String) (ik ic : Nat) (E : String) : Prop := Bundle.fit E = true ∧ Cond.classLink own ik E ∈ g_WS ∧ Cond.initialized E ∈ g_WS ∧ (∀ wd ∈ vx_atS own ic E g_xn, wd ∈ g_WS ∨ (∃ q ∈ g_csts, wd = .castable q.1 q.2) ∨ ∃ q ∈ g_decl, wd = .declares q) ∧ ∀ wd ∈ Cond.classLink own ik E :: Cond.initialized E :: vx_atS own ic E g_xn, vx_ot wd = true
theorem g_throwC {p : Program} {l : Launch} {R : Room} {s : State} {m : MethodId} {args : Array Value} {meth : Method} {c : Code} {ad : Nat → Nat} {A : Nat → Prop} {mc ms ik ic : Nat} {E : String} (fx : G_fx M scr p l R s m args meth c ad A mc ms) (hE : g_E (mY M).cls ik ic E) : ∀ wd ∈ vx_atS (mY M).cls ic E g_xn, wd.before args s = true := by
  obtain ⟨f1, f2, f3, f4, f5, f6, f7, f8, f9, f10, f11, f12, f13, f14⟩ := id fx
  intro wd hw
  rcases hE.2.2.2.1 wd hw with h | ⟨q, hq, rfl⟩ | ⟨q, hq, rfl⟩
  · exact f10 _ h
  · exact va_Nw.use rfl (f13.2.2.2.1 q hq)
  · exact va_Nw.use rfl (f13.2.2.2.2.2.2.2 q hq)
theorem g_throw {ik is ic : Nat} {E tx : String} (hE : g_E (mY M).cls ik ic E) (hs : ((mY M).cls, is, tx) ∈ g_strs) (hh : mH M = [])
    (d0 : decode (mC M) pc = .ok (.new ik, 3)) (d3 : decode (mC M) (pc + 3) = .ok (.dup, 1)) (d4 : decode (mC M) (pc + 4) = .ok (.ldc is, 2)) (d6 : decode (mC M) (pc + 6) = .ok (.invokespecial ic, 3)) (d9 : decode (mC M) (pc + 9) = .ok (.athrow, 1))
    (hF : 5 < mF M) (hO : g_sz S + 82 ≤ mO M) (hb : 1 ≤ bc ∧ 6 ≤ bs) (hq : Q (.inr E) w) : G M scr al alE pc L S w bc bs Q := by
  intro p l e R s m args below meth c D cA ad base A H locs cells slots mc ms ls fx dy hl
  obtain ⟨f1, f2, f3, f4, f5, f6, f7, f8, f9, f10, ⟨g1, g2, g3, g4⟩, f12, f13, f14⟩ := id fx
  obtain ⟨e1, e2, e3, e4, e5, d6', d7⟩ := id dy
  obtain ⟨sa, hsa⟩ := f13.2.2.1 _ hs
  have hcat := g_cats (ad := ad) S
  refine vx_throwS (names := g_xn) f1 f3 f2 f9 hE.1 (by decide) (f10 _ hE.2.1) (f10 _ hE.2.2.1) hsa (g_throwC fx hE) hE.2.2.2.2 f13.1 f13.2.1 e4 (by rw [f4]; exact hl.1) d0 d3 d4 d6 d9 (fun x hx => ?_) (by rw [g1]; exact hF) (by rw [hcat, g2]; exact hO) (by omega) (by omega) f6 (fun t hv hz ho => ?_) e4.2.2 (by omega) (by omega)
  · rw [f8, hh] at hx; cases hx
  · refine ⟨⟨w, hq, ?_, va_K.moved hv e2, e3, fun h => nomatch h⟩, Nat.le_trans e4.1 hz, fun q h1 h2 => (ho q (Nat.lt_of_lt_of_le h1 e4.1)).trans (e4.2.1 q h1 h2)⟩
    exact e1.kept fun k x hx => ho x.1 ((e1 k x hx).lt)
theorem g_throwW {ik is ic : Nat} {E tx : String} (hE : g_E (mY M).cls ik ic E) (hs : ((mY M).cls, is, tx) ∈ g_strs) (hh : mH M = [])
    (d0 : decode (mC M) pc = .ok (.new ik, 3)) (d3 : decode (mC M) (pc + 3) = .ok (.dup, 1)) (d4 : decode (mC M) (pc + 4) = .ok (.ldc_w is, 3)) (d6 : decode (mC M) (pc + 7) = .ok (.invokespecial ic, 3)) (d9 : decode (mC M) (pc + 10) = .ok (.athrow, 1))
    (hF : 5 < mF M) (hO : g_sz S + 82 ≤ mO M) (hb : 1 ≤ bc ∧ 6 ≤ bs) (hq : Q (.inr E) w) : G M scr al alE pc L S w bc bs Q := by
  intro p l e R s m args below meth c D cA ad base A H locs cells slots mc ms ls fx dy hl
  obtain ⟨f1, f2, f3, f4, f5, f6, f7, f8, f9, f10, ⟨g1, g2, g3, g4⟩, f12, f13, f14⟩ := id fx
  obtain ⟨e1, e2, e3, e4, e5, d6', d7⟩ := id dy
  obtain ⟨sa, hsa⟩ := f13.2.2.1 _ hs
  have hcat := g_cats (ad := ad) S
  refine vx_throwSW (names := g_xn) f1 f3 f2 f9 hE.1 (by decide) (f10 _ hE.2.1) (f10 _ hE.2.2.1) hsa (g_throwC fx hE) hE.2.2.2.2 f13.1 f13.2.1 e4 (by rw [f4]; exact hl.1) d0 d3 d4 d6 d9 (fun x hx => ?_) (by rw [g1]; exact hF) (by rw [hcat, g2]; exact hO) (by omega) (by omega) f6 (fun t hv hz ho => ?_) e4.2.2 (by omega) (by omega)
  · rw [f8, hh] at hx; cases hx
  · refine ⟨⟨w, hq, ?_, va_K.moved hv e2, e3, fun h => nomatch h⟩, Nat.le_trans e4.1 hz, fun q h1 h2 => (ho q (Nat.lt_of_lt_of_le h1 e4.1)).trans (e4.2.1 q h1 h2)⟩
    exact e1.kept fun k x hx => ho x.1 ((e1 k x hx).lt)
/-- not caught here -/
theorem GX.out {E : String} (hh : mH M = []) (hq : Q (.inr E) w) : GX M scr alE pc L S E w bc bs Q := by
  intro p l e R s m args below meth c D cA ad base A H locs cells slots mc ms ls q ce fx dy hl hce hcv hcl
  obtain ⟨f1, f2, f3, f4, f5, f6, f7, f8, f9, f10, f11, f12, f13, f14⟩ := id fx
  obtain ⟨d1, d2, d3, d4, d5, d6, d7⟩ := id dy
  refine vx_out (fun x hx => ?_) f6 hce hcv hcl (fun t ht hv => ⟨⟨w, hq, by rw [ht]; exact d1, va_K.moved hv d2, d3, fun h => nomatch h⟩, d4.F ht⟩) d4.2.2 (by omega) (by omega)
  rw [f8, hh] at hx; cases hx
/-- caught here, by the row x; the exception goes into the local i -/
theorem GX.catch {E nm : String} (pre : List (Nat × Nat × Nat × Nat)) (x : Nat × Nat × Nat × Nat) (suf : List (Nat × Nat × Nat × Nat)) {i : Nat} {k9 : Fin 4} (hh : mH M = pre ++ x :: suf) (hpass : ∀ z ∈ pre, z.2.2.2 ≠ 0 ∧ ∃ n9 : String, Cond.classLink (mY M).cls z.2.2.2 n9 ∈ g_WS ∧ (E, n9) ∈ g_ncs) (hx : x.1 ≤ pc ∧ pc < x.2.1) (h0 : x.2.2.2 ≠ 0) (hlink : Cond.classLink (mY M).cls x.2.2.2 nm ∈ g_WS) (hc : (E, nm) ∈ g_csts)
    (hd : decode (mC M) x.2.2.1 = .ok (.astore_n k9, 1)) (hi : (k9 : Nat) = i) (hn : i < mL M) (hk : g_nl L i = true) (kk : G M scr false alE (x.2.2.1 + 1) (L.set i none) [] w bc bs Q) : GX M scr alE pc L S E w bc bs Q := by
  intro p l e R s m args below meth c D cA ad base A H locs cells slots mc ms ls q ce fx dy hl hce hcv hcl
  obtain ⟨f1, f2, f3, f4, f5, f6, f7, f8, f9, f10, f11, f12, f13, f14⟩ := id fx
  have hsp : c.exceptionTable.toList = tableOf pre ++ (⟨x.1, x.2.1, x.2.2.1, x.2.2.2⟩ : ExceptionTableEntry) :: tableOf suf := by rw [f8, hh]; simp [tableOf]
  refine vx_catch (E := E) (name := nm) f9 (tableOf pre) ⟨x.1, x.2.1, x.2.2.1, x.2.2.2⟩ (tableOf suf) hsp (fun z hz => ?_) ?_ h0 (f10 _ hlink) (va_Nw.use rfl (f13.2.2.2.1 _ hc)) hce hcv hcl ?_
  · unfold tableOf at hz
    obtain ⟨y, hy, rfl⟩ := List.mem_map.mp hz
    obtain ⟨a1, n9, a2, a3⟩ := hpass y hy
    exact Or.inr ⟨a1, n9, f10 _ a2, f13.2.2.2.2.2.2.1 _ a3⟩
  · simp [covers, hx.1, hx.2]
  · refine lv_astore_n f1 f3 hd hi hl hn rfl (fun ls' hl' => ?_)
    refine kk p l e R s m args below meth c D cA ad base A H locs cells slots mc ms ls' fx dy (g_keep hl' (fun q9 hq9 => ?_))
    have h7 := g_set1 (ad := ad) (x := vR q) hk q9
    refine List.mem_cons_of_mem _ ?_
    obtain ⟨j, v, b1, b2⟩ := g_L_mem.mp hq9
    by_cases hj : i = j
    · subst hj
      by_cases hl9 : i < L.length
      · rw [List.getElem?_set_self hl9] at b1; cases b1
      · rw [List.getElem?_eq_none (by simp; omega)] at b1; cases b1
    · rw [List.getElem?_set_ne hj] at b1
      have h8 : q9 ∈ g_L ad 0 (L.set i (some (vR q))) := g_L_mem.mpr ⟨j, v, by rw [List.getElem?_set_ne hj]; exact b1, b2⟩
      rcases List.mem_cons.mp (h7 h8) with h6 | h6
      · rw [b2] at h6
        exact absurd (congrArg Prod.fst h6).symm (by show ¬ i = 0 + j; omega)
      · exact h6
end GMO
