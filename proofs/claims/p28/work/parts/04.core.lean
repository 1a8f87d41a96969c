/-! THE JUDGEMENT G: a method's body, from a place of its code on, in the small machine's words; and its calls. -/
section GJ
/-! what throws and catches stand on, by their names -/
def g_strs : List (String × Nat × String) := [(RX3, 121, "no such number of the memory"), (RX3, 279, "no such process or page"), (RX3, 141, "no such number of a page"), (RX3, 145, "no such frame"), (RX3, 148, "no such place"), (RX3, 284, "no such process or group"), (RX3, 168, "no such number of a group"), (RX3, 170, "no such value"), (RX3, 175, "no frame is free"), (RX3, 274, "no such process"), (RX3, 192, "no process number is left"), (RX3, 201, "it is the only process"), (RX3, 209, "the group cannot marry"), (RX3, 214, "the group is not big"), (RX3, 219, "no such number of frames")]
def g_csts : List (String × String) := [("java/lang/IllegalArgumentException", "java/lang/IllegalArgumentException"), ("java/lang/IllegalStateException", "java/lang/IllegalStateException"), ("java/lang/IndexOutOfBoundsException", "java/lang/IndexOutOfBoundsException")]
def g_nest : List (String × Nat × MethodName × String) := [(RX3, 9, yX2_init, RX3)]
def g_ncs : List (String × String) := [("java/lang/IllegalStateException", "java/lang/IllegalArgumentException"), ("java/lang/IndexOutOfBoundsException", "java/lang/IllegalArgumentException"), ("java/lang/IllegalArgumentException", "java/lang/IllegalStateException"), ("java/lang/IndexOutOfBoundsException", "java/lang/IllegalStateException"), ("java/lang/IllegalArgumentException", "java/lang/IndexOutOfBoundsException"), ("java/lang/IllegalStateException", "java/lang/IndexOutOfBoundsException")]
def g_decl : List MethodName := [⟨"java/lang/RuntimeException", "<init>", "(Ljava/lang/String;)V"⟩, ⟨"java/lang/Exception", "<init>", "(Ljava/lang/String;)V"⟩, ⟨"java/lang/Throwable", "<init>", "(Ljava/lang/String;)V"⟩]
abbrev MT : Type := MethodName × ByteArray × Nat × Option FieldType × List (Nat × Nat × Nat × Nat) × Nat × Nat
abbrev mY (M : MT) : MethodName := M.1
abbrev mC (M : MT) : ByteArray := M.2.1
abbrev mL (M : MT) : Nat := M.2.2.1
abbrev mR (M : MT) : Option FieldType := M.2.2.2.1
abbrev mH (M : MT) : List (Nat × Nat × Nat × Nat) := M.2.2.2.2.1
abbrev mF (M : MT) : Nat := M.2.2.2.2.2.1
abbrev mO (M : MT) : Nat := M.2.2.2.2.2.2
def g_WS : List Cond := lw_tbl.filter goodWord
theorem g_good {w : Cond} (h : w ∈ g_WS) : (w.onTables && w.keeps) = true ∨ ∃ ty, w = .arrayClass ty := good_of_word (List.mem_filter.mp h).2
def SCR : Nat := 1000000
def g_tys (cA : Nat → ClassId) : List (ClassId × FieldType) := [(cA 0, .int), (cA 1, .char), (cA 2, .boolean), (cA 3, .long), (cA 4, .object RX1)]
/-- what throws and catches need of the start -/
def G_th (A : Nat → Prop) (s : State) : Prop :=
  vx_Zq Bundle.tN "UNASSIGNED_STACK" Bundle.steD A s s.heap ∧ vx_Zq Bundle.tN "SUPPRESSED_SENTINEL" Bundle.listD A s s.heap ∧
  (∀ q ∈ g_strs, ∃ sa, vk_R q.1 q.2.1 q.2.2 sa s) ∧ (∀ q ∈ g_csts, va_Nw (.castable q.1 q.2) s) ∧ (∀ q ∈ g_nest, va_Nw (.methodLinkNest q.1 q.2.1 q.2.2.1 q.2.2.2) s) ∧ va_AO RX1 s ∧ (∀ q ∈ g_ncs, va_Nc q.1 q.2 s) ∧ (∀ q ∈ g_decl, va_Nw (.declares q) s)
def G_fx (M : MT) (scr : Option (Nat × (Nat → Int))) (p : Program) (l : Launch) (R : Room) (s : State) (m : MethodId) (args : Array Value) (meth : Method) (c : Code) (ad : Nat → Nat) (A : Nat → Prop) (mc ms : Nat) : Prop :=
  p.tables.exec = Jvm.exec ∧ l.stackTraces = false ∧ c.code = mC M ∧ c.maxLocals = mL M ∧ meth.sig.returnType = mR M ∧ meth.locks = false ∧ meth.name = (mY M).name ∧ c.exceptionTable.toList = tableOf (mH M) ∧
  s.vm.findClass (mY M).cls = some m.cls ∧ (∀ w ∈ g_WS, w.before args s = true) ∧ (R.frames = mF M ∧ R.locals = mO M ∧ R.cells = mc ∧ R.slots = ms) ∧ (∀ q, s.heap.size ≤ q → A q) ∧ G_th A s ∧
  (∀ q, scr = some q → va_X (ad SCR) q.1 (fun j => Int32.ofInt (q.2 j)) s s.heap ∧ ad SCR < s.heap.size ∧ ¬ A (ad SCR))
/-- the cells lie in a row -/
def G_al (al : Bool) (base : Nat) (ad : Nat → Nat) (w : List MC) (sz : Nat) : Prop := al = true → sz = base + w.length ∧ w.length < SCR ∧ ∀ k, k < SCR → ad k = base + k
def G_dy (al : Bool) (D : va_G) (cA : Nat → ClassId) (ad : Nat → Nat) (base : Nat) (A : Nat → Prop) (s : State) (H : Heap) (locs : List Loc) (cells slots mc ms : Nat) (w : List MC) (bc bs : Nat) : Prop :=
  va_P D vwCl (g_W cA ad w) H ∧ va_K D vwCl (g_tys cA) s ∧ va_D A (g_W cA ad w) ∧ va_S A s.heap H locs ∧ (G_al al base ad w H.size ∧ (al = true → s.heap.size + cells = base + w.length)) ∧ cells + bc ≤ mc ∧ slots + bs ≤ ms
/-- the world at a method's end -/
def G_R (al : Bool) (D : va_G) (cA : Nat → ClassId) (ad : Nat → Nat) (base : Nat) (A : Nat → Prop) (w : List MC) (t : State) : Prop :=
  va_P D vwCl (g_W cA ad w) t.heap ∧ va_K D vwCl (g_tys cA) t ∧ va_D A (g_W cA ad w) ∧ G_al al base ad w t.heap.size
def G_Q (al : Bool) (D : va_G) (cA : Nat → ClassId) (ad : Nat → Nat) (base : Nat) (A : Nat → Prop) (Q : (Option MV) ⊕ String → List MC → Prop) : Array Value → State → Outcome → State → Prop := fun _ st oc t =>
  (∃ (r : Option MV) (w : List MC), oc = .returned (r.map (g_V ad)) ∧ Q (.inl r) w ∧ G_R al D cA ad base A w t) ∧ va_F A st t
def G_X (D : va_G) (cA : Nat → ClassId) (ad : Nat → Nat) (base : Nat) (A : Nat → Prop) (Q : (Option MV) ⊕ String → List MC → Prop) : String → State → State → Prop := fun E st t =>
  (∃ w : List MC, Q (.inr E) w ∧ G_R false D cA ad base A w t) ∧ va_F A st t
def G (M : MT) (scr : Option (Nat × (Nat → Int))) (al alE : Bool) (pc : Nat) (L : List (Option MV)) (S : List MV) (w : List MC) (bc bs : Nat) (Q : (Option MV) ⊕ String → List MC → Prop) : Prop :=
  ∀ (p : Program) (l : Launch) (e : Env) (R : Room) (s : State) (m : MethodId) (args : Array Value) (below : List Frame) (meth : Method) (c : Code) (D : va_G) (cA : Nat → ClassId) (ad : Nat → Nat) (base : Nat) (A : Nat → Prop) (H : Heap) (locs : List Loc) (cells slots mc ms : Nat) (ls : Array Slot),
    G_fx M scr p l R s m args meth c ad A mc ms → G_dy al D cA ad base A s H locs cells slots mc ms w bc bs → lv_has ls (mL M) (g_L ad 0 L) →
    W p l e R s m args below meth c H locs cells slots (vx_MQ below (G_Q alE D cA ad base A Q) (G_X D cA ad base A Q) args s mc ms A) (F0 m pc ls (S.map (g_V ad)))
/-- the same, with E thrown over the frame -/
def GX (M : MT) (scr : Option (Nat × (Nat → Int))) (alE : Bool) (pc : Nat) (L : List (Option MV)) (S : List MV) (E : String) (w : List MC) (bc bs : Nat) (Q : (Option MV) ⊕ String → List MC → Prop) : Prop :=
  ∀ (p : Program) (l : Launch) (e : Env) (R : Room) (s : State) (m : MethodId) (args : Array Value) (below : List Frame) (meth : Method) (c : Code) (D : va_G) (cA : Nat → ClassId) (ad : Nat → Nat) (base : Nat) (A : Nat → Prop) (H : Heap) (locs : List Loc) (cells slots mc ms : Nat) (ls : Array Slot) (q : Nat) (ce : Cell),
    G_fx M scr p l R s m args meth c ad A mc ms → G_dy false D cA ad base A s H locs cells slots mc ms w bc bs → lv_has ls (mL M) (g_L ad 0 L) →
    H[q]? = some ce → ce.vm = .none → s.vm.findClass E = some ce.cls →
    vx_W p l e R s m args below meth c H locs cells slots (vx_MQ below (G_Q alE D cA ad base A Q) (G_X D cA ad base A Q) args s mc ms A) (F0 m pc ls (S.map (g_V ad))) q
theorem G_th.moved {A B : Nat → Prop} {s U : State} {H : Heap} (h : G_th A s) (hW : s.WarmedH U.vm) (hq : ∀ a : Nat, a < s.heap.size → ¬ A a → H[a]? = s.heap[a]?) (hAB : ∀ q, B q → A q) (hU : U.heap = H) : G_th B U := by
  obtain ⟨h1, h2, h3, h4, h5, h6, h7, h8⟩ := h
  subst hU
  refine ⟨((h1.kept hq).moved hW.alike).narrow hAB, ((h2.kept hq).moved hW.alike).narrow hAB, fun q hq => ?_, fun q hq => (h4 q hq).warmC hW, fun q hq => (h5 q hq).warmM hW, h6.moved hW.alike, fun q hq => (h7 q hq).moved hW.alike, fun q hq => (h8 q hq).warmD hW⟩
  obtain ⟨sa, hs⟩ := h3 q hq
  exact ⟨sa, hs.warm hW⟩
theorem G_th.called {A : Nat → Prop} {U : State} (h : G_th A U) (g : JFrame) (mk : MethodId) (a : Array Value) : G_th A (U.calling g mk a) := by
  obtain ⟨h1, h2, h3, h4, h5, h6, h7, h8⟩ := h
  have hv : (U.calling g mk a).vm = U.vm := rfl
  refine ⟨vx_Zq.moved (u := U) (Vm.Alike.refl U.vm) h1, vx_Zq.moved (u := U) (Vm.Alike.refl U.vm) h2, fun q hq => ?_, fun q hq => va_Nw.same rfl hv.symm (h4 q hq), fun q hq => va_Nw.same rfl hv.symm (h5 q hq), va_AO.moved (u := U) (Vm.Alike.refl U.vm) h6, fun q hq => va_Nc.moved (u := U) (Vm.Alike.refl U.vm) (h7 q hq), fun q hq => va_Nw.same rfl hv.symm (h8 q hq)⟩
  obtain ⟨sa, hs⟩ := h3 q hq
  exact ⟨sa, hs.same hv⟩
/-- more is allowed at the end -/
theorem W.post {p : Program} {l : Launch} {e : Env} {R : Room} {s : State} {m : MethodId} {args : Array Value} {below : List Frame} {meth : Method} {c : Code} {H : Heap} {locs : List Loc} {cells slots : Nat} {Q Q' : State → Prop} {g : JFrame} (k : W p l e R s m args below meth c H locs cells slots Q g) (h : ∀ t, Q t → Q' t) : W p l e R s m args below meth c H locs cells slots Q' g := by
  intro T hT X
  obtain ⟨t, a, b⟩ := k T hT X
  exact ⟨t, a, h t b⟩
theorem g_mq {below : List Frame} {D : va_G} {cA : Nat → ClassId} {ad : Nat → Nat} {base : Nat} {A : Nat → Prop} {alE : Bool} {Q Q' : (Option MV) ⊕ String → List MC → Prop} {args : Array Value} {s : State} {mc ms : Nat} (h : ∀ r w, Q r w → Q' r w) :
    ∀ t, vx_MQ below (G_Q alE D cA ad base A Q) (G_X D cA ad base A Q) args s mc ms A t → vx_MQ below (G_Q alE D cA ad base A Q') (G_X D cA ad base A Q') args s mc ms A t := by
  rintro t ⟨o, h1, h2, h3⟩
  refine ⟨o, h1, h2, ?_⟩
  rcases h3 with ⟨⟨⟨r, w, e1, e2, e3⟩, e4⟩, e5⟩ | ⟨q, e1, E, ce, L, ⟨⟨w, e2, e3⟩, e4⟩, e5⟩
  · exact Or.inl ⟨⟨⟨r, w, e1, h _ _ e2, e3⟩, e4⟩, e5⟩
  · exact Or.inr ⟨q, e1, E, ce, L, ⟨⟨w, h _ _ e2, e3⟩, e4⟩, e5⟩
section
variable {M : MT} {scr : Option (Nat × (Nat → Int))} {al alE : Bool} {pc pc' : Nat} {L L' : List (Option MV)} {S S' : List MV} {w w' : List MC} {bc bs bc' bs' : Nat} {Q Q' : (Option MV) ⊕ String → List MC → Prop}
theorem G.mono (k : G M scr al alE pc L S w bc bs Q) (h : ∀ r w, Q r w → Q' r w) : G M scr al alE pc L S w bc bs Q' := by
  intro p l e R s m args below meth c D cA ad base A H locs cells slots mc ms ls fx dy hl
  exact W.post (k p l e R s m args below meth c D cA ad base A H locs cells slots mc ms ls fx dy hl) (g_mq h)
theorem G.bud (k : G M scr al alE pc L S w bc bs Q) (h1 : bc ≤ bc') (h2 : bs ≤ bs') : G M scr al alE pc L S w bc' bs' Q := by
  intro p l e R s m args below meth c D cA ad base A H locs cells slots mc ms ls fx dy hl
  obtain ⟨d1, d2, d3, d4, d5, d6, d7⟩ := dy
  exact k p l e R s m args below meth c D cA ad base A H locs cells slots mc ms ls fx ⟨d1, d2, d3, d4, d5, by omega, by omega⟩ hl
/-- from here on nothing is made any more that must lie in a row -/
theorem G.phase (k : G M scr false alE pc L S w bc bs Q) : G M scr al alE pc L S w bc bs Q := by
  intro p l e R s m args below meth c D cA ad base A H locs cells slots mc ms ls fx dy hl
  obtain ⟨d1, d2, d3, d4, d5, d6, d7⟩ := dy
  exact k p l e R s m args below meth c D cA ad base A H locs cells slots mc ms ls fx ⟨d1, d2, d3, d4, ⟨(fun h => nomatch h), (fun h => nomatch h)⟩, d6, d7⟩ hl
/-- fewer locals are known -/
theorem G.loc (hL : ∀ ad, ∀ q ∈ g_L ad 0 L', q ∈ g_L ad 0 L) (k : G M scr al alE pc L' S w bc bs Q) : G M scr al alE pc L S w bc bs Q := by
  intro p l e R s m args below meth c D cA ad base A H locs cells slots mc ms ls fx dy hl
  exact k p l e R s m args below meth c D cA ad base A H locs cells slots mc ms ls fx dy (g_keep hl (hL ad))
theorem G.drop (i : Nat) (k : G M scr al alE pc (L.set i none) S w bc bs Q) : G M scr al alE pc L S w bc bs Q := G.loc (fun ad q hq => g_drop i q hq) k
/-- an instruction that leaves the cells as they are -/
theorem G.st (h : ∀ (p : Program) (l : Launch) (e : Env) (R : Room) (s : State) (m : MethodId) (args : Array Value) (below : List Frame) (meth : Method) (c : Code) (H : Heap) (locs : List Loc) (cells slots : Nat) (Z : State → Prop) (ls : Array Slot) (ad : Nat → Nat),
      p.tables.exec = Jvm.exec → c.code = mC M → s.vm.findClass (mY M).cls = some m.cls → (∀ w ∈ g_WS, w.before args s = true) → lv_has ls (mL M) (g_L ad 0 L) →
      (∀ ls', lv_has ls' (mL M) (g_L ad 0 L') → W p l e R s m args below meth c H locs cells slots Z (F0 m pc' ls' (S'.map (g_V ad)))) → W p l e R s m args below meth c H locs cells slots Z (F0 m pc ls (S.map (g_V ad))))
    (k : G M scr al alE pc' L' S' w bc bs Q) : G M scr al alE pc L S w bc bs Q := by
  intro p l e R s m args below meth c D cA ad base A H locs cells slots mc ms ls fx dy hl
  obtain ⟨f1, f2, f3, f4, f5, f6, f7, f8, f9, f10, f11⟩ := id fx
  exact h p l e R s m args below meth c H locs cells slots _ ls ad f1 f3 f9 f10 hl (fun ls' hl' => k p l e R s m args below meth c D cA ad base A H locs cells slots mc ms ls' fx dy hl')
/-- one that goes one of two ways -/
theorem G.st2 {P1 P2 : Prop} {pc1 pc2 : Nat} (h : ∀ (p : Program) (l : Launch) (e : Env) (R : Room) (s : State) (m : MethodId) (args : Array Value) (below : List Frame) (meth : Method) (c : Code) (H : Heap) (locs : List Loc) (cells slots : Nat) (Z : State → Prop) (ls : Array Slot) (ad : Nat → Nat),
      p.tables.exec = Jvm.exec → c.code = mC M →
      (P1 → W p l e R s m args below meth c H locs cells slots Z (F0 m pc1 ls (S'.map (g_V ad)))) → (P2 → W p l e R s m args below meth c H locs cells slots Z (F0 m pc2 ls (S'.map (g_V ad)))) → W p l e R s m args below meth c H locs cells slots Z (F0 m pc ls (S.map (g_V ad))))
    (k1 : P1 → G M scr al alE pc1 L S' w bc bs Q) (k2 : P2 → G M scr al alE pc2 L S' w bc bs Q) : G M scr al alE pc L S w bc bs Q := by
  intro p l e R s m args below meth c D cA ad base A H locs cells slots mc ms ls fx dy hl
  obtain ⟨f1, f2, f3, f4, f5, f6, f7, f8, f9, f10, f11⟩ := id fx
  exact h p l e R s m args below meth c H locs cells slots _ ls ad f1 f3 (fun hp => k1 hp p l e R s m args below meth c D cA ad base A H locs cells slots mc ms ls fx dy hl) (fun hp => k2 hp p l e R s m args below meth c D cA ad base A H locs cells slots mc ms ls fx dy hl)
end
/-! a method's contract out of its body -/
def g_ws (M : MT) : List Cond := (if mH M = [] then Cond.code (mY M) (mC M) (mL M) (mR M) else Cond.codeWith (mY M) (mC M) (mL M) (mR M) (mH M)) :: g_WS
def g_rm (M : MT) (mc ms : Nat) : Room := { frames := mF M, cells := mc, slots := ms, locals := mO M }
/-- the body of a method with these arguments -/
def GM (M : MT) (al : Bool) (as : List MV) (w : List MC) (bc bs : Nat) (Q : (Option MV) ⊕ String → List MC → Prop) : Prop := G M none al al 0 (g_pad (mL M) as) [] w bc bs Q
def g_Pc (al : Bool) (D : va_G) (cA : Nat → ClassId) (ad : Nat → Nat) (base sz : Nat) (as : List MV) (w : List MC) : Array Value → State → Prop :=
  va_Pc (as.map (g_V ad)) (fun U => U.heap.size = sz ∧ va_P D vwCl (g_W cA ad w) U.heap ∧ va_K D vwCl (g_tys cA) U ∧ va_D (fun _ => True) (g_W cA ad w) ∧ G_al al base ad w sz ∧ G_th (va_A (g_W cA ad w) sz) U)
theorem g_ws_code {M : MT} (h : mH M = []) : g_ws M = Cond.code (mY M) (mC M) (mL M) (mR M) :: g_WS := by unfold g_ws; rw [if_pos h]
theorem g_ws_codeW {M : MT} (h : mH M ≠ []) : g_ws M = Cond.codeWith (mY M) (mC M) (mL M) (mR M) (mH M) :: g_WS := by unfold g_ws; rw [if_neg h]
theorem g_met {M : MT} {al : Bool} {as : List MV} {w : List MC} {bc bs : Nat} {Q : (Option MV) ⊕ String → List MC → Prop} {l : Launch} (hl : l.stackTraces = false) (hn : (g_ent as).length ≤ mL M) (hy : plainName (mY M).cls = true) (D : va_G) (cA : Nat → ClassId) (ad : Nat → Nat) (base sz : Nat)
    (k : GM M al as w bc bs Q) : vx_Met l (mY M) (g_ws M) (g_rm M bc bs) (g_Pc al D cA ad base sz as w) (G_Q al D cA ad base (va_A (g_W cA ad w) sz) Q) (G_X D cA ad base (va_A (g_W cA ad w) sz) Q) bc bs (va_A (g_W cA ad w) sz) := by
  have body : ∀ (ws' : List Cond) (p : Program) (e : Env) (s : State) (m : MethodId) (args : Array Value) (below : List Frame) (meth : Method) (c : Code) (s₁ : State), BodyLoose p l (mY M) (headSpec (g_ws M) (g_rm M bc bs)) (mC M) (mL M) (mR M) e s m args below meth c s₁ → c.maxLocals = mL M → c.exceptionTable.toList = tableOf (mH M) → g_Pc al D cA ad base sz as w args s →
      W p l e (g_rm M bc bs) s m args below meth c s.heap [] 0 0 (vx_MQ below (G_Q al D cA ad base (va_A (g_W cA ad w) sz) Q) (G_X D cA ad base (va_A (g_W cA ad w) sz) Q) args s bc bs (va_A (g_W cA ad w) sz)) (entryFrame m args (mL M)) := by
    intro _ p e s m args below meth c s₁ B hml ht hv
    obtain ⟨rfl, rfl, hP, hK, hD, hal, hth⟩ := hv
    rw [lg_entry_eq]
    have hts := atoms_spec (ws := g_ws M) B.pre
    exact k p l e (g_rm M bc bs) s m _ below meth c D cA ad base _ s.heap [] 0 0 bc bs _
      ⟨B.exec, hl, B.bytes, hml, B.returns, B.notSynchronized, (name_of_methodNamed B.named B.method).1, ht, findClass_of_methodNamed B.named, fun w hw => hts w (by unfold g_ws; exact List.mem_cons_of_mem _ hw), ⟨rfl, rfl, rfl, rfl⟩, fun q hq => Or.inr hq, hth, fun q hq => nomatch hq⟩
      ⟨hP, hK, hD.self, va_S.rf, ⟨hal, fun h => (hal h).1⟩, Nat.le_of_eq (Nat.zero_add _), Nat.le_of_eq (Nat.zero_add _)⟩ (g_entry hn)
  by_cases hh : mH M = []
  · refine vx_ofW (cc := mC M) (maxL := mL M) (ret := mR M) hy (g_ws_code hh) ?_
    intro p e s m args below meth c s₁ B hml ht hv
    refine body [] p e s m args below meth c s₁ B hml ?_ hv
    rw [hh]
    cases hc : c.exceptionTable.toList with
    | nil => rfl
    | cons x xs => exact (ht x (by rw [hc]; exact List.mem_cons_self)).elim
  · refine vx_ofWH (cc := mC M) (maxL := mL M) (ret := mR M) hy (g_ws_codeW hh) ?_
    intro p e s m args below meth c s₁ B hml hv
    exact body [] p e s m args below meth c s₁ B hml (vx_table (x := mY M) B (atoms_spec (ws := g_ws M) B.pre _ (by rw [g_ws_codeW hh]; exact List.mem_cons_self))) hv
end GJ
