/-! ===== BEGIN words of one list among another's, by their places ===== -/
theorem goodIn_r {big : List Cond} (ws : List Cond) (ps : List Nat) (hp : ws = ps.filterMap (fun i => big[i]?)) (h : ws.all goodWord = true) : GoodIn big ws := by
  intro w hw
  have h1 := List.all_eq_true.mp h w hw
  rw [hp] at hw
  obtain ⟨i, -, hi⟩ := List.mem_filterMap.mp hw
  have hm : w ∈ big := by first | exact List.mem_of_getElem? hi | exact List.getElem?_mem hi
  exact ⟨hm, good_of_word h1⟩
theorem goodIn_app {big a b : List Cond} (ha : GoodIn big a) (hb : GoodIn big b) : GoodIn big (a ++ b) := fun w h => (List.mem_append.mp h).elim (ha w) (hb w)
theorem goodIn_ca {big a b : List Cond} {c : Cond} (ha : GoodIn big (c :: a)) (hb : GoodIn big b) : GoodIn big (c :: (a ++ b)) := fun w h => (List.mem_cons.mp h).elim (fun e => ha w (List.mem_cons.mpr (Or.inl e))) (fun h => (List.mem_append.mp h).elim (fun h => ha w (List.mem_cons.mpr (Or.inr h))) (hb w))
theorem goodIn_sub {big ws : List Cond} (hm : ∀ w ∈ ws, w ∈ big) (h : ws.all goodWord = true) : GoodIn big ws := fun w hw => ⟨hm w hw, good_of_word (List.all_eq_true.mp h w hw)⟩
/-! ===== END ===== -/

/-! ===== BEGIN exceptions that leave a method, and their catching by the caller (launches without stack traces) ===== -/
section VXA
/-! The laws vx_back, vx_callV, vx_callS, vx_callSW, vx_throw0, vx_throwS follow proofs of the library, with one case more: JvmDerived/Free/Laws.lean (Back.of_free), Shelf42/LK1.lean (callV, callS), Shelf/KitTraced.lean (throwNew0V, throwNewS). -/
/-- where a method has thrown q: the class by its name, the cell, what was written, the world -/
def vx_T (XC : String → State → State → Prop) (st : State) (q : Addr) (t : State) (mc ms : Nat) (free : Addr → Prop) : Prop :=
  ∃ (E : String) (ce : Cell) (L : List Loc), XC E st t ∧ t.heap[q]? = some ce ∧ ce.vm = .none ∧ st.vm.findClass E = some ce.cls ∧ st.WarmedH t.vm ∧ st.sameButNew ({ t with vm := st.vm } : State) L mc ms ∧ ∀ z ∈ L, free z.base
def vx_Q (Qc : Array Value → State → Outcome → State → Prop) (XC : String → State → State → Prop) (mc ms : Nat) (free : Addr → Prop) : Array Value → State → Outcome → State → Prop := fun a st o t =>
  (Qc a st o t ∧ ∃ L, FrameEnd st o t L mc ms ∧ ∀ q ∈ L, free q.base) ∨ ∃ q, o = .threw q ∧ vx_T XC st q t mc ms free
/-- a callee that returns or throws -/
def vx_Met (l : Launch) (y : MethodName) (ws : List Cond) (rm : Room) (Pc : Array Value → State → Prop) (Qc : Array Value → State → Outcome → State → Prop) (XC : String → State → State → Prop) (mc ms : Nat) (free : Addr → Prop) : Prop :=
  MetFree l y (headSpec ws rm) Pc (fun _ _ _ _ _ => True) (vx_Q Qc XC mc ms free)
def vx_Post (XC : String → State → State → Prop) (mc ms : Nat) (free : Addr → Prop) : Pt → Array Value → Addr → Pt → Prop := fun A a q B =>
  ∃ (g : JFrame) (mk : MethodId) (t : State) (L : List Loc) (E : String) (ce : Cell), B.U.heap = t.heap ∧ B.U.vm = t.vm ∧ XC E (A.U.calling g mk a) t ∧ t.heap[q]? = some ce ∧ ce.vm = .none ∧ A.U.vm.findClass E = some ce.cls ∧ B.locs = A.locs ++ L ∧ (∀ z ∈ L, free z.base) ∧ B.cells = A.cells + mc ∧ B.slots = A.slots + ms
def vx_Back (l : Launch) (R : Room) (p : Program) (e : Env) (below : List Frame) (s : State) (sargs : Array Value) (y : MethodName) (len W9 : Nat)
    (Pre : Pt → Array Value → Prop) (Post : Pt → Array Value → Option Value → Pt → Prop) (PostX : Pt → Array Value → Addr → Pt → Prop) : Prop :=
  ∀ (m : MethodId) (meth : Method) (c : Code) (A : Pt) (g : JFrame) (ig : Instr) (mk : MethodId) (a : Array Value),
    Stand p l e R s m sargs below meth c A.U A.locs A.cells A.slots → g.method = m → g.locals.size = c.maxLocals → decode c.code g.pc = .ok (ig, len) →
    2 * g.monitorRoom + (g.stack.map fun v => v.category).sum ≤ W9 → A.U.methodNamed? y = some mk → Pre A a →
    (∃ (v : Option Value) (B : Pt), Stand p l e R s m sargs below meth c B.U B.locs B.cells B.slots ∧ Post A a v B ∧
      Steps p.tables e below (doInvoke e (A.U.setTop g) [] mk a).1 (B.U.setTop { g with pc := g.pc + len, stack := v.toList ++ g.stack })) ∨
    (∃ (q : Addr) (B : Pt), Stand p l e R s m sargs below meth c B.U B.locs B.cells B.slots ∧ PostX A a q B ∧
      Steps p.tables e below (doInvoke e (A.U.setTop g) [] mk a).1 ((B.U.setTop g).pushFrame (.throwing q)))
section Payer
variable {l : Launch} {R : Room} {p : Program} {e : Env} {below : List Frame} {s : State} {sargs : Array Value} {y : MethodName} {len W9 : Nat}
theorem vx_back {ws : List Cond} {rm : Room} {Pc : Array Value → State → Prop} {Qc : Array Value → State → Outcome → State → Prop} {XC : String → State → State → Prop} {mc ms : Nat} {free : Addr → Prop} {bytes : ByteArray} {maxL : Nat} {ret : Option FieldType}
    (hM : vx_Met l y ws rm Pc Qc XC mc ms free) (hblind : FrameBlind Pc) (hrc : rm.cells = mc) (hrs : rm.slots = ms)
    (hframes : rm.frames + 1 ≤ R.frames) (hlocals : W9 + (maxL + 11) + rm.locals ≤ R.locals)
    (hws : ∀ w ∈ ws, ∀ a' U, s.WarmedH U.vm → w.before a' U = true) (hcode : Cond.code y bytes maxL ret ∈ ws) (hinit : ∀ a' U, s.WarmedH U.vm → (Cond.initialized y.cls).before a' U = true) :
    vx_Back l R p e below s sargs y len W9 (PreOf R mc ms Pc) (PostOf Qc mc ms free) (vx_Post XC mc ms free) := by
  intro m meth c A g ig mk a X hg hsize hdg hW hn hp
  have h1 : (headSpec ws rm).pre.before a A.U = true := atoms_intro fun w hw => hws w hw _ _ X.warmed
  have h2 : (Cond.code y bytes maxL ret).before a A.U = true := hws _ hcode _ _ X.warmed
  have h3 : (Cond.initialized y.cls).before a A.U = true := hinit _ _ X.warmed
  have h4 : A.cells + (headSpec ws rm).room.cells ≤ R.cells := by rw [show (headSpec ws rm).room.cells = mc from hrc]; exact hp.1
  have h5 : A.slots + (headSpec ws rm).room.slots ≤ R.slots := by rw [show (headSpec ws rm).room.slots = ms from hrs]; exact hp.2.1
  have hPc : Pc a (A.U.calling g mk a) := hblind _ _ _ _ hp.2.2
  obtain ⟨U, Ls, c0, s0⟩ := A
  dsimp only [Pt.U, Pt.locs, Pt.cells, Pt.slots] at h1 h2 h3 h4 h5 X hn hPc ⊢
  obtain ⟨methY, cY, hmY, hcY, -, hlY, -, -, -, -⟩ := Cond.code_spec hn h2
  obtain ⟨kY, hkY, -⟩ := className_of_methodNamed hn
  have hinitY : kY.init = .initialized := Cond.initialized_spec (findClass_of_methodNamed hn) hkY h3
  have h : At U g.method c below := by rw [hg]; exact X.here
  have hlocals9 : W9 + (maxL + 11) + (headSpec ws rm).room.locals ≤ R.locals := hlocals
  have happ : (headSpec ws rm).appliesLoose y e.platform (U.calling g mk a) = true :=
    Spec.appliesLoose_calling (g := g) h hdg hn hkY hinitY
      (X.room_calling (g := g) (R' := (headSpec ws rm).room) hsize hmY hcY hframes (by rw [hlY]; omega) h4 h5) h1
  obtain ⟨mid, hmid⟩ := h.above
  have hfr : (U.setTop g).frames = (.java g :: mid) ++ below := by rw [State.frames_setTop' g h.top, hmid]; rfl
  obtain ⟨o, s₂, hsteps, -, hend, hq⟩ := Steps.callFree hM p X.admits X.cas X.clock (acts := []) hfr happ hPc trivial
  have hq' : vx_Q Qc XC mc ms free a (U.calling g mk a) o s₂ := hq
  rw [State.frames_setTop' g h.top] at hend
  obtain ⟨g₀, hg0⟩ := Option.isSome_iff_exists.mp h.top
  obtain ⟨r, hr⟩ := State.topJava?_eq_some.mp hg0
  have hr' : (({ U with heap := s₂.heap, slotsUsed := s₂.slotsUsed } : State).setVm s₂.vm).frames = .java g₀ :: r := hr
  rcases hq' with ⟨hqc, L, hfe, hL⟩ | ⟨q, rfl, E, ce, L, hx, hce, hcv, hcl, hW₂, hsm, hL⟩
  · obtain ⟨⟨v, rfl⟩, hW₂, e2, q2, q3, q4, q5, q6⟩ := id hfe
    have e3 : s₂ = ({ (U.calling g mk a).setFrames s₂.frames with heap := s₂.heap, slotsUsed := s₂.slotsUsed } : State).setVm s₂.vm := by
      have : s₂ = ({ s₂ with vm := (U.calling g mk a).vm } : State).setVm s₂.vm := rfl
      rw [e2] at this
      exact this
    obtain ⟨c₂, i₂, len₂, hc₂, hd₂, hf₂⟩ := hend
    have hW' : U.WarmedH s₂.vm := hW₂
    have hcc : c₂ = c := by
      have h1 : s₂.code? g.method = U.code? g.method := by
        rw [State.code?_eq, State.code?_eq, hW'.alike.method?]
      exact Option.some.inj (hc₂.symm.trans (h1.trans h.code))
    subst hcc
    have hlen : len₂ = len := by rw [hdg] at hd₂; cases hd₂; rfl
    subst hlen
    have hs₂ : s₂ = (({ U with heap := s₂.heap, slotsUsed := s₂.slotsUsed } : State).setVm s₂.vm).setTop { g with pc := g.pc + len₂, stack := v.toList ++ g.stack } := by
      refine e3.trans ?_
      rw [hf₂, State.calling_eq h.top, State.setFrames_setFrames, State.setTop_of_frames _ hr', hr]
      rfl
    have hsame : U.sameButNew ({ U with heap := s₂.heap, slotsUsed := s₂.slotsUsed } : State) L mc ms := by
      refine ⟨?_, q2, q3, q4, q5, q6⟩
      obtain ⟨t, ht, -⟩ := State.frames_cons hr
      show ({ U with heap := s₂.heap, slotsUsed := s₂.slotsUsed } : State) = { U.setFrames U.frames with heap := s₂.heap, slotsUsed := s₂.slotsUsed }
      rw [State.setFrames_self ht]
    subst hg
    refine Or.inl ⟨v, ⟨(({ U with heap := s₂.heap, slotsUsed := s₂.slotsUsed } : State).setVm s₂.vm), Ls ++ L, c0 + mc, s0 + ms⟩,
      ⟨X.admits, X.cas, X.clock, X.frames, X.room, X.hears, X.method, X.code, (X.here.setHeapUsed s₂.heap s₂.slotsUsed).setVm hW'.alike, X.tail, State.WarmedH.trans X.warmed hW', X.limits, X.bytes, X.same.trans (hsame.setVm s.vm)⟩,
      ⟨g, mk, s₂, L, rfl, rfl, hqc, rfl, hL, rfl, rfl⟩, ?_⟩
    show Steps p.tables e below _ ((({ U with heap := s₂.heap, slotsUsed := s₂.slotsUsed } : State).setVm s₂.vm).setTop { g with pc := g.pc + len₂, stack := v.toList ++ g.stack })
    rw [← hs₂]
    exact hsteps
  · obtain ⟨e2, q2, q3, q4, q5, q6⟩ := id hsm
    have e3 : s₂ = ({ (U.calling g mk a).setFrames s₂.frames with heap := s₂.heap, slotsUsed := s₂.slotsUsed } : State).setVm s₂.vm := by
      have : s₂ = ({ s₂ with vm := (U.calling g mk a).vm } : State).setVm s₂.vm := rfl
      rw [e2] at this
      exact this
    have hf₂ : s₂.frames = .throwing q :: .java g :: U.frames.tail := hend
    have hW' : U.WarmedH s₂.vm := hW₂
    have hs₂ : s₂ = ((({ U with heap := s₂.heap, slotsUsed := s₂.slotsUsed } : State).setVm s₂.vm).setTop g).pushFrame (.throwing q) := by
      refine e3.trans ?_
      rw [hf₂, State.calling_eq h.top, State.setFrames_setFrames, State.pushFrame, State.frames_setTop _ hr', State.setTop_of_frames _ hr', State.setFrames_setFrames, hr]
      rfl
    have hsame : U.sameButNew ({ U with heap := s₂.heap, slotsUsed := s₂.slotsUsed } : State) L mc ms := by
      refine ⟨?_, q2, q3, q4, q5, q6⟩
      obtain ⟨t, ht, -⟩ := State.frames_cons hr
      show ({ U with heap := s₂.heap, slotsUsed := s₂.slotsUsed } : State) = { U.setFrames U.frames with heap := s₂.heap, slotsUsed := s₂.slotsUsed }
      rw [State.setFrames_self ht]
    subst hg
    refine Or.inr ⟨q, ⟨(({ U with heap := s₂.heap, slotsUsed := s₂.slotsUsed } : State).setVm s₂.vm), Ls ++ L, c0 + mc, s0 + ms⟩,
      ⟨X.admits, X.cas, X.clock, X.frames, X.room, X.hears, X.method, X.code, (X.here.setHeapUsed s₂.heap s₂.slotsUsed).setVm hW'.alike, X.tail, State.WarmedH.trans X.warmed hW', X.limits, X.bytes, X.same.trans (hsame.setVm s.vm)⟩,
      ⟨g, mk, s₂, L, E, ce, rfl, rfl, hx, hce, hcv, hcl, rfl, hL, rfl, rfl⟩, ?_⟩
    show Steps p.tables e below _ (((({ U with heap := s₂.heap, slotsUsed := s₂.slotsUsed } : State).setVm s₂.vm).setTop g).pushFrame (.throwing q))
    rw [← hs₂]
    exact hsteps
end Payer
section Calls
variable {p : Program} {l : Launch} {e : Env} {R : Room} {s : State} {m : MethodId} {args : Array Value} {below : List Frame} {meth : Method} {c : Code} {T : State} {locs : List Loc} {cells slots : Nat}
theorem vx_callV (X : Stand p l e R s m args below meth c T locs cells slots) (hexec : p.tables.exec = Jvm.exec) {own C : String} {index : Nat} {y : MethodName} {bytes : ByteArray} {maxL : Nat} {ret : Option FieldType}
    (hown : s.vm.findClass own = some m.cls) (hlink : (Cond.methodLink own index y).before args s = true) (hinst : (Cond.instanceMethod y).before args s = true) (hsel : (Cond.selects C y y).before args s = true)
    (hcode : (Cond.code y bytes maxL ret).before args s = true) (hy : y.cls ≠ "java/lang/invoke/MethodHandle" ∧ y.cls ≠ "java/lang/invoke/VarHandle")
    {W9 : Nat} {Pre : Pt → Array Value → Prop} {Post : Pt → Array Value → Option Value → Pt → Prop} {PostX : Pt → Array Value → Addr → Pt → Prop} (hK : vx_Back l R p e below s args y 3 W9 Pre Post PostX)
    {b : Addr} {cellB : Cell} (hcell : T.heap[b]? = some cellB) (hobj : cellB.vm.isStatics = false) (hcls : s.vm.findClass C = some cellB.cls)
    {g : JFrame} (hg : g.method = m) (hsize : g.locals.size = c.maxLocals) {argsL rest : List Value} (hlen : ∀ sig, parseMethodDescriptor y.desc = some sig → argsL.length = sig.parameters.length)
    (hstack : g.stack = argsL.reverse ++ .ref b :: rest) (hW : 2 * g.monitorRoom + (rest.map fun v => v.category).sum ≤ W9) (hdg : decode c.code g.pc = .ok (.invokevirtual index, 3))
    (hpre : ∀ vm₁, s.WarmedH vm₁ → Pre ⟨T.setVm vm₁, locs, cells, slots⟩ (Value.ref b :: argsL).toArray) :
    (∃ (v : Option Value) (vm₁ : Vm) (B : Pt), s.WarmedH vm₁ ∧ Stand p l e R s m args below meth c B.U B.locs B.cells B.slots ∧ Post ⟨T.setVm vm₁, locs, cells, slots⟩ (Value.ref b :: argsL).toArray v B ∧
      ∀ target, Steps p.tables e below (B.U.setTop { g with pc := g.pc + 3, stack := v.toList ++ rest }) target → Steps p.tables e below (T.setTop g) target) ∨
    (∃ (q : Addr) (vm₁ : Vm) (B : Pt), s.WarmedH vm₁ ∧ Stand p l e R s m args below meth c B.U B.locs B.cells B.slots ∧ PostX ⟨T.setVm vm₁, locs, cells, slots⟩ (Value.ref b :: argsL).toArray q B ∧
      Steps p.tables e below (T.setTop g) ((B.U.setTop { g with stack := rest }).pushFrame (.throwing q))) := by
  obtain ⟨mk, methM, hnamed, hmethM, hstM, habM⟩ := Cond.instanceMethod_spec hinst
  obtain ⟨methM', cM, hmethM', -, -, -, -, -, -, hsigM⟩ := Cond.code_spec hnamed hcode
  cases hmethM.symm.trans hmethM'
  obtain ⟨c2, r2, m2, q1, q2, q3, q4, kP, hkP, hkPi⟩ := Cond.selects_spec hsel
  cases hcls.symm.trans q1
  cases (State.methodFound?_of_named hnamed hy).symm.trans q2
  cases hnamed.symm.trans q3
  have hselP : selectMethod e.platform s.vm cellB.cls mk = .method mk := by rw [Launch.admits_selectMethod X.admits]; exact q4
  obtain ⟨vm₁, X₁, hstep₁⟩ := X.invokevirtual hexec hown hlink hnamed hmethM hstM hkP hkPi hy (a := b) (cell := cellB) hcell
    (fun z h => by rw [h] at hobj; cases hobj) hselP hmethM habM hkP hkPi (g := g) hg (argsL := argsL) (rest := rest) (hlen _ hsigM) hstack hdg
  rcases hK m meth c ⟨T.setVm vm₁, locs, cells, slots⟩ { g with stack := rest } (.invokevirtual index) mk (Value.ref b :: argsL).toArray X₁ hg hsize hdg hW (X₁.named hnamed) (hpre vm₁ X₁.warmed) with ⟨v, B, X', hpost, hsteps⟩ | ⟨q, B, X', hpost, hsteps⟩
  · exact Or.inl ⟨v, vm₁, B, X₁.warmed, X', hpost, fun target h => hstep₁ _ fun acts => by rw [doInvoke_state]; exact hsteps.trans h⟩
  · exact Or.inr ⟨q, vm₁, B, X₁.warmed, X', hpost, hstep₁ _ fun acts => by rw [doInvoke_state]; exact hsteps⟩
theorem vx_callS (X : Stand p l e R s m args below meth c T locs cells slots) (hexec : p.tables.exec = Jvm.exec) {own : String} {index : Nat} {y : MethodName} {bytes : ByteArray} {maxL : Nat} {ret : Option FieldType}
    (hown : s.vm.findClass own = some m.cls) (hlink : (Cond.methodLink own index y).before args s = true) (hstat : (Cond.static y).before args s = true) (hinit : (Cond.initialized y.cls).before args s = true)
    (hcode : (Cond.code y bytes maxL ret).before args s = true) (hy : y.cls ≠ "java/lang/invoke/MethodHandle" ∧ y.cls ≠ "java/lang/invoke/VarHandle")
    {W9 : Nat} {Pre : Pt → Array Value → Prop} {Post : Pt → Array Value → Option Value → Pt → Prop} {PostX : Pt → Array Value → Addr → Pt → Prop} (hK : vx_Back l R p e below s args y 3 W9 Pre Post PostX)
    {g : JFrame} (hg : g.method = m) (hsize : g.locals.size = c.maxLocals) {argsL rest : List Value} (hlen : ∀ sig, parseMethodDescriptor y.desc = some sig → argsL.length = sig.parameters.length)
    (hstack : g.stack = argsL.reverse ++ rest) (hW : 2 * g.monitorRoom + (rest.map fun v => v.category).sum ≤ W9) (hdg : decode c.code g.pc = .ok (.invokestatic index, 3))
    (hpre : ∀ vm₁, s.WarmedH vm₁ → Pre ⟨T.setVm vm₁, locs, cells, slots⟩ argsL.toArray) :
    (∃ (v : Option Value) (vm₁ : Vm) (B : Pt), s.WarmedH vm₁ ∧ Stand p l e R s m args below meth c B.U B.locs B.cells B.slots ∧ Post ⟨T.setVm vm₁, locs, cells, slots⟩ argsL.toArray v B ∧
      ∀ target, Steps p.tables e below (B.U.setTop { g with pc := g.pc + 3, stack := v.toList ++ rest }) target → Steps p.tables e below (T.setTop g) target) ∨
    (∃ (q : Addr) (vm₁ : Vm) (B : Pt), s.WarmedH vm₁ ∧ Stand p l e R s m args below meth c B.U B.locs B.cells B.slots ∧ PostX ⟨T.setVm vm₁, locs, cells, slots⟩ argsL.toArray q B ∧
      Steps p.tables e below (T.setTop g) ((B.U.setTop { g with stack := rest }).pushFrame (.throwing q))) := by
  obtain ⟨mk, hnamed⟩ := Cond.code_named hcode
  obtain ⟨methM, cM, hmethM, -, -, -, -, -, -, hsigM⟩ := Cond.code_spec hnamed hcode
  have hstatic : methM.isStatic = true := Cond.static_spec hnamed hmethM hstat
  obtain ⟨kP, hkP, -⟩ := className_of_methodNamed hnamed
  have hinitP : kP.init = .initialized := Cond.initialized_spec (findClass_of_methodNamed hnamed) hkP hinit
  obtain ⟨vm₁, X₁, hstep₁⟩ := X.invokestatic hexec hown hlink hnamed hmethM hstatic hkP hinitP hy (g := g) hg (argsL := argsL) (rest := rest) (hlen _ hsigM) hstack hdg
  rcases hK m meth c ⟨T.setVm vm₁, locs, cells, slots⟩ { g with stack := rest } (.invokestatic index) mk argsL.toArray X₁ hg hsize hdg hW (X₁.named hnamed) (hpre vm₁ X₁.warmed) with ⟨v, B, X', hpost, hsteps⟩ | ⟨q, B, X', hpost, hsteps⟩
  · exact Or.inl ⟨v, vm₁, B, X₁.warmed, X', hpost, fun target h => hstep₁ _ fun acts => by rw [doInvoke_state]; exact hsteps.trans h⟩
  · exact Or.inr ⟨q, vm₁, B, X₁.warmed, X', hpost, hstep₁ _ fun acts => by rw [doInvoke_state]; exact hsteps⟩
end Calls
theorem vx_cls {s : State} {T : State} {vm₁ : Vm} {E : String} {k : ClassId} (hW : s.WarmedH vm₁) (h : (T.setVm vm₁).vm.findClass E = some k) : s.vm.findClass E = some k := by
  have h1 : vm₁.findClass E = some k := h
  rw [hW.alike.findClass] at h1
  exact h1
/-- the method's frame g, with q thrown over it -/
def vx_W (p : Program) (l : Launch) (e : Env) (R : Room) (s : State) (m : MethodId) (args : Array Value) (below : List Frame) (meth : Method) (c : Code) (H : Heap) (locs : List Loc) (cells slots : Nat) (Q : State → Prop) (g : JFrame) (q : Addr) : Prop :=
  ∀ T : State, T.heap = H → Stand p l e R s m args below meth c T locs cells slots → ∃ t, Steps p.tables e below ((T.setTop g).pushFrame (.throwing q)) t ∧ Q t
def vx_Run (p : Program) (l : Launch) (e : Env) (R : Room) (s : State) (m : MethodId) (args : Array Value) (below : List Frame) (meth : Method) (c : Code) (H : Heap) (locs : List Loc) (cells slots mc ms : Nat) (g : JFrame) (rest : List Value) (Qa : State → Outcome → State → Prop) (XC : String → State → State → Prop) (free : Addr → Prop) : Prop :=
  ∀ T : State, T.heap = H → Stand p l e R s m args below meth c T locs cells slots →
    (∃ (v : Option Value) (st₀ t T' : State) (L : List Loc), st₀.heap = H ∧ Stand p l e R s m args below meth c T' (locs ++ L) (cells + mc) (slots + ms) ∧ (∀ q ∈ L, free q.base) ∧ T'.heap = t.heap ∧ T'.vm = t.vm ∧ Qa st₀ (.returned v) t ∧
      Goes p e below T g T' { g with pc := g.pc + 3, stack := v.toList ++ rest }) ∨
    (∃ (q : Addr) (st₀ t T' : State) (L : List Loc) (E : String) (ce : Cell), st₀.heap = H ∧ Stand p l e R s m args below meth c T' (locs ++ L) (cells + mc) (slots + ms) ∧ (∀ z ∈ L, free z.base) ∧ T'.heap = t.heap ∧ T'.vm = t.vm ∧ XC E st₀ t ∧ t.heap[q]? = some ce ∧ ce.vm = .none ∧ s.vm.findClass E = some ce.cls ∧
      Steps p.tables e below (T.setTop g) ((T'.setTop { g with stack := rest }).pushFrame (.throwing q)))
def vx_X {S : Type} (px : S → Prop) (B : String → S → State → Prop) (A : Nat → Prop) : String → State → State → Prop := fun E st t => ∃ u : S, px u ∧ B E u t ∧ va_F A st t
section Runs
variable {p : Program} {l : Launch} {e : Env} {R : Room} {s : State} {m : MethodId} {args : Array Value} {below : List Frame} {meth : Method} {c : Code} {H : Heap} {locs : List Loc} {cells slots : Nat}
variable {y : MethodName} {bytes cc : ByteArray} {maxL nL mc ms n index : Nat} {ret : Option FieldType} {ws : List Cond} {rm : Room} {Pc : Array Value → State → Prop} {Qc : Array Value → State → Outcome → State → Prop} {XC : String → State → State → Prop} {free : Addr → Prop} {Ts : List Cond} {own C : String} {b : Addr} {As rest : List Value} {g : JFrame}
theorem vx_callBack (cb : CallB R s args own index y bytes maxL ret ws rm mc ms n) (hM : vx_Met l y ws rm Pc Qc XC mc ms free) (hbl : FrameBlind Pc) : vx_Back l R p e below s args y 3 8 (PreOf R mc ms Pc) (PostOf Qc mc ms free) (vx_Post XC mc ms free) := by
  obtain ⟨hrc, hrs, hfr, hlo, hws, hcw, -, hini, -⟩ := cb
  exact vx_back (bytes := bytes) (maxL := maxL) (ret := ret) hM hbl hrc hrs hfr hlo hws hcw (fun a' U hW => word_at hW (Or.inl (by first | rfl | simp [Cond.onTables, Cond.keeps, Cond.steady])) hini)
theorem vx_runV (S : CallFix p m c cc nL s args Ts own) (hM : vx_Met l y ws rm Pc Qc XC mc ms free) (cw : CallW R s args own C index y bytes maxL ret ws rm mc ms n) (hp : PreV s H C b Pc As)
    (hg : g.method = m) (hn : As.length = n) (hsize : g.locals.size = nL) (hstack : g.stack = As.reverse ++ .ref b :: rest) (hW : 2 * g.monitorRoom + (rest.map fun v => v.category).sum ≤ 8) (hdg : decode cc g.pc = .ok (.invokevirtual index, 3)) (hf : cells + mc ≤ R.cells ∧ slots + ms ≤ R.slots) :
    vx_Run p l e R s m args below meth c H locs cells slots mc ms g rest (Qc (Value.ref b :: As).toArray) XC free := by
  have hK : vx_Back l R p e below s args y 3 8 (PreOf R mc ms Pc) (PostOf Qc mc ms free) (vx_Post XC mc ms free) := vx_callBack cw.1 hM hp.1
  obtain ⟨⟨-, -, -, -, -, -, hcode, -, hy, hlen, hl⟩, hin, hse⟩ := cw
  obtain ⟨hx, hb, hml, ho, -⟩ := S
  obtain ⟨-, ⟨cellB, hcB, hoB, hclB⟩, hPc⟩ := hp
  intro T hT X
  rcases vx_callV X hx (C := C) (bytes := bytes) (maxL := maxL) (ret := ret) ho hl hin hse hcode hy hK (by rw [hT]; exact hcB) hoB hclB hg (hsize.trans hml.symm) (argsL := As) (rest := rest) (fun sig h => hn.trans (hlen sig h)) hstack hW (by rw [hb]; exact hdg)
    (fun vm₁ hW₁ => ⟨hf.1, hf.2, hPc (T.setVm vm₁) hT hW₁⟩) with ⟨v, vm₁, ⟨U', l2, c2, s2⟩, hW₁, X', ⟨g', mk, t, L, e1, e2, hq, h1, hL, h2, h3⟩, st⟩ | ⟨q, vm₁, ⟨U', l2, c2, s2⟩, hW₁, X', ⟨g', mk, t, L, E, ce, e1, e2, hq, hce, hcv, hcl, h1, hL, h2, h3⟩, st⟩
  · dsimp only [Pt.U, Pt.locs, Pt.cells, Pt.slots] at X' e1 e2 h1 h2 h3 st
    subst h1; subst h2; subst h3
    exact Or.inl ⟨v, (T.setVm vm₁).calling g' mk (Value.ref b :: As).toArray, t, U', L, hT, X', hL, e1, e2, hq, st⟩
  · dsimp only [Pt.U, Pt.locs, Pt.cells, Pt.slots] at X' e1 e2 h1 h2 h3 st hcl
    subst h1; subst h2; subst h3
    exact Or.inr ⟨q, (T.setVm vm₁).calling g' mk (Value.ref b :: As).toArray, t, U', L, E, ce, hT, X', hL, e1, e2, hq, hce, hcv, vx_cls hW₁ hcl, st⟩
theorem vx_runS (S : CallFix p m c cc nL s args Ts own) (hM : vx_Met l y ws rm Pc Qc XC mc ms free) (cw : CallB R s args own index y bytes maxL ret ws rm mc ms n ∧ (Cond.static y).before args s = true) (hp : PreS s H Pc As)
    (hg : g.method = m) (hn : As.length = n) (hsize : g.locals.size = nL) (hstack : g.stack = As.reverse ++ rest) (hW : 2 * g.monitorRoom + (rest.map fun v => v.category).sum ≤ 8) (hdg : decode cc g.pc = .ok (.invokestatic index, 3)) (hf : cells + mc ≤ R.cells ∧ slots + ms ≤ R.slots) :
    vx_Run p l e R s m args below meth c H locs cells slots mc ms g rest (Qc As.toArray) XC free := by
  have hK : vx_Back l R p e below s args y 3 8 (PreOf R mc ms Pc) (PostOf Qc mc ms free) (vx_Post XC mc ms free) := vx_callBack cw.1 hM hp.1
  obtain ⟨⟨-, -, -, -, -, -, hcode, hini, hy, hlen, hl⟩, hstt⟩ := cw
  obtain ⟨hx, hb, hml, ho, -⟩ := S
  intro T hT X
  rcases vx_callS X hx (bytes := bytes) (maxL := maxL) (ret := ret) ho hl hstt hini hcode hy hK hg (hsize.trans hml.symm) (argsL := As) (rest := rest) (fun sig h => hn.trans (hlen sig h)) hstack hW (by rw [hb]; exact hdg)
    (fun vm₁ hW₁ => ⟨hf.1, hf.2, hp.2 (T.setVm vm₁) hT hW₁⟩) with ⟨v, vm₁, ⟨U', l2, c2, s2⟩, hW₁, X', ⟨g', mk, t, L, e1, e2, hq, h1, hL, h2, h3⟩, st⟩ | ⟨q, vm₁, ⟨U', l2, c2, s2⟩, hW₁, X', ⟨g', mk, t, L, E, ce, e1, e2, hq, hce, hcv, hcl, h1, hL, h2, h3⟩, st⟩
  · dsimp only [Pt.U, Pt.locs, Pt.cells, Pt.slots] at X' e1 e2 h1 h2 h3 st
    subst h1; subst h2; subst h3
    exact Or.inl ⟨v, (T.setVm vm₁).calling g' mk As.toArray, t, U', L, hT, X', hL, e1, e2, hq, st⟩
  · dsimp only [Pt.U, Pt.locs, Pt.cells, Pt.slots] at X' e1 e2 h1 h2 h3 st hcl
    subst h1; subst h2; subst h3
    exact Or.inr ⟨q, (T.setVm vm₁).calling g' mk As.toArray, t, U', L, E, ce, hT, X', hL, e1, e2, hq, hce, hcv, vx_cls hW₁ hcl, st⟩
end Runs
section Rows
variable {p : Program} {l : Launch} {e : Env} {R : Room} {s : State} {m : MethodId} {args : Array Value} {below : List Frame} {meth : Method} {c : Code} {H : Heap} {locs : List Loc} {cells slots : Nat} {Q : State → Prop}
variable {mc ms : Nat} {free : Addr → Prop} {A0 A1 : Nat → Prop} {H0 : Heap} {a : Array Value} {pc : Nat} {ls : Array Slot} {st0 rest : List Value}
theorem vx_keep {st₀ t T' : State} {L : List Loc} (h0 : st₀.heap = H) (e1 : T'.heap = t.heap) (hS : va_S A0 H0 H locs) (hA : ∀ q, q < H.size → A1 q → A0 q) (hf : ∀ q, free q → A0 q) (hL : ∀ q ∈ L, free q.base) (hF : va_F A1 st₀ t) :
    H.size ≤ T'.heap.size ∧ (∀ q : Nat, q < H.size → ¬ A1 q → T'.heap[q]? = H[q]?) ∧ va_S A0 H0 T'.heap (locs ++ L) := by
  obtain ⟨hz, hk⟩ := hF
  rw [h0] at hz hk
  exact ⟨by rw [e1]; exact hz, fun q h1 h2 => by rw [e1]; exact hk q h1 h2,
    ⟨Nat.le_trans hS.1 (by rw [e1]; exact hz), fun q h1 h2 => by rw [e1, hk q (Nat.lt_of_lt_of_le h1 hS.1) (fun z => h2 (hA q (Nat.lt_of_lt_of_le h1 hS.1) z))]; exact hS.2.1 q h1 h2, fun q hq => by
      rcases List.mem_append.mp hq with h | h
      · exact hS.2.2 q h
      · exact hf _ (hL q h)⟩⟩
theorem vx_calli {S SX : Type} {post : Int32 → S → Prop} {px : SX → Prop} {B : S → State → Prop} {BX : String → SX → State → Prop} {AX : Nat → Prop} (hr : vx_Run p l e R s m args below meth c H locs cells slots mc ms (F0 m pc ls st0) rest (va_Qi post B A1 a) (vx_X px BX AX) free) (hS : va_S A0 H0 H locs) (hA : ∀ q, q < H.size → A1 q → A0 q) (hf : ∀ q, free q → A0 q) (hAX : ∀ q, q < H.size → AX q → A0 q)
    (kx : ∀ (E : String) (ce : Cell) (q9 : Addr) (u : SX) (t : State) (H1 : Heap) (locs1 : List Loc), t.heap = H1 → s.vm.Alike t.vm → px u → BX E u t → H.size ≤ H1.size → (∀ q : Nat, q < H.size → ¬ AX q → H1[q]? = H[q]?) → va_S A0 H0 H1 locs1 → H1[q9]? = some ce → ce.vm = .none → s.vm.findClass E = some ce.cls → vx_W p l e R s m args below meth c H1 locs1 (cells + mc) (slots + ms) Q (F0 m pc ls rest) q9)
    (kk : ∀ (r : Int32) (u : S) (t : State) (H1 : Heap) (locs1 : List Loc), t.heap = H1 → s.vm.Alike t.vm → post r u → B u t → H.size ≤ H1.size → (∀ q : Nat, q < H.size → ¬ A1 q → H1[q]? = H[q]?) → va_S A0 H0 H1 locs1 → W p l e R s m args below meth c H1 locs1 (cells + mc) (slots + ms) Q (F0 m (pc + 3) ls (.int r :: rest))) : W p l e R s m args below meth c H locs cells slots Q (F0 m pc ls st0) := by
  intro T hT X
  rcases hr T hT X with ⟨v, st₀, t, T', L, h0, X', hL, e1, e2, ⟨⟨r, u, hv, hp, hb⟩, hF⟩, st⟩ | ⟨q, st₀, t, T', L, E, ce, h0, X', hL, e1, e2, ⟨u, hp, hb, hF⟩, hce, hcv, hcl, st⟩
  · cases hv
    obtain ⟨k1, k2, k3⟩ := vx_keep h0 e1 hS hA hf hL hF
    obtain ⟨t2, a1, b1⟩ := kk r u t T'.heap (locs ++ L) e1.symm (by rw [← e2]; exact X'.warmed.alike) hp hb k1 k2 k3 T' rfl X'
    exact ⟨t2, st t2 a1, b1⟩
  · obtain ⟨k1, k2, k3⟩ := vx_keep h0 e1 hS hAX hf hL hF
    obtain ⟨t2, a1, b1⟩ := kx E ce q u t T'.heap (locs ++ L) e1.symm (by rw [← e2]; exact X'.warmed.alike) hp hb k1 k2 k3 (by rw [e1]; exact hce) hcv hcl T' rfl X'
    exact ⟨t2, st.trans a1, b1⟩
theorem vx_calll {S SX : Type} {post : Int64 → S → Prop} {px : SX → Prop} {B : S → State → Prop} {BX : String → SX → State → Prop} {AX : Nat → Prop} (hr : vx_Run p l e R s m args below meth c H locs cells slots mc ms (F0 m pc ls st0) rest (va_Ql post B A1 a) (vx_X px BX AX) free) (hS : va_S A0 H0 H locs) (hA : ∀ q, q < H.size → A1 q → A0 q) (hf : ∀ q, free q → A0 q) (hAX : ∀ q, q < H.size → AX q → A0 q)
    (kx : ∀ (E : String) (ce : Cell) (q9 : Addr) (u : SX) (t : State) (H1 : Heap) (locs1 : List Loc), t.heap = H1 → s.vm.Alike t.vm → px u → BX E u t → H.size ≤ H1.size → (∀ q : Nat, q < H.size → ¬ AX q → H1[q]? = H[q]?) → va_S A0 H0 H1 locs1 → H1[q9]? = some ce → ce.vm = .none → s.vm.findClass E = some ce.cls → vx_W p l e R s m args below meth c H1 locs1 (cells + mc) (slots + ms) Q (F0 m pc ls rest) q9)
    (kk : ∀ (r : Int64) (u : S) (t : State) (H1 : Heap) (locs1 : List Loc), t.heap = H1 → s.vm.Alike t.vm → post r u → B u t → H.size ≤ H1.size → (∀ q : Nat, q < H.size → ¬ A1 q → H1[q]? = H[q]?) → va_S A0 H0 H1 locs1 → W p l e R s m args below meth c H1 locs1 (cells + mc) (slots + ms) Q (F0 m (pc + 3) ls (.long r :: rest))) : W p l e R s m args below meth c H locs cells slots Q (F0 m pc ls st0) := by
  intro T hT X
  rcases hr T hT X with ⟨v, st₀, t, T', L, h0, X', hL, e1, e2, ⟨⟨r, u, hv, hp, hb⟩, hF⟩, st⟩ | ⟨q, st₀, t, T', L, E, ce, h0, X', hL, e1, e2, ⟨u, hp, hb, hF⟩, hce, hcv, hcl, st⟩
  · cases hv
    obtain ⟨k1, k2, k3⟩ := vx_keep h0 e1 hS hA hf hL hF
    obtain ⟨t2, a1, b1⟩ := kk r u t T'.heap (locs ++ L) e1.symm (by rw [← e2]; exact X'.warmed.alike) hp hb k1 k2 k3 T' rfl X'
    exact ⟨t2, st t2 a1, b1⟩
  · obtain ⟨k1, k2, k3⟩ := vx_keep h0 e1 hS hAX hf hL hF
    obtain ⟨t2, a1, b1⟩ := kx E ce q u t T'.heap (locs ++ L) e1.symm (by rw [← e2]; exact X'.warmed.alike) hp hb k1 k2 k3 (by rw [e1]; exact hce) hcv hcl T' rfl X'
    exact ⟨t2, st.trans a1, b1⟩
theorem vx_callf {S SX : Type} {post : UInt32 → S → Prop} {px : SX → Prop} {B : S → State → Prop} {BX : String → SX → State → Prop} {AX : Nat → Prop} (hr : vx_Run p l e R s m args below meth c H locs cells slots mc ms (F0 m pc ls st0) rest (va_Qf post B A1 a) (vx_X px BX AX) free) (hS : va_S A0 H0 H locs) (hA : ∀ q, q < H.size → A1 q → A0 q) (hf : ∀ q, free q → A0 q) (hAX : ∀ q, q < H.size → AX q → A0 q)
    (kx : ∀ (E : String) (ce : Cell) (q9 : Addr) (u : SX) (t : State) (H1 : Heap) (locs1 : List Loc), t.heap = H1 → s.vm.Alike t.vm → px u → BX E u t → H.size ≤ H1.size → (∀ q : Nat, q < H.size → ¬ AX q → H1[q]? = H[q]?) → va_S A0 H0 H1 locs1 → H1[q9]? = some ce → ce.vm = .none → s.vm.findClass E = some ce.cls → vx_W p l e R s m args below meth c H1 locs1 (cells + mc) (slots + ms) Q (F0 m pc ls rest) q9)
    (kk : ∀ (r : UInt32) (u : S) (t : State) (H1 : Heap) (locs1 : List Loc), t.heap = H1 → s.vm.Alike t.vm → post r u → B u t → H.size ≤ H1.size → (∀ q : Nat, q < H.size → ¬ A1 q → H1[q]? = H[q]?) → va_S A0 H0 H1 locs1 → W p l e R s m args below meth c H1 locs1 (cells + mc) (slots + ms) Q (F0 m (pc + 3) ls (.float r :: rest))) : W p l e R s m args below meth c H locs cells slots Q (F0 m pc ls st0) := by
  intro T hT X
  rcases hr T hT X with ⟨v, st₀, t, T', L, h0, X', hL, e1, e2, ⟨⟨r, u, hv, hp, hb⟩, hF⟩, st⟩ | ⟨q, st₀, t, T', L, E, ce, h0, X', hL, e1, e2, ⟨u, hp, hb, hF⟩, hce, hcv, hcl, st⟩
  · cases hv
    obtain ⟨k1, k2, k3⟩ := vx_keep h0 e1 hS hA hf hL hF
    obtain ⟨t2, a1, b1⟩ := kk r u t T'.heap (locs ++ L) e1.symm (by rw [← e2]; exact X'.warmed.alike) hp hb k1 k2 k3 T' rfl X'
    exact ⟨t2, st t2 a1, b1⟩
  · obtain ⟨k1, k2, k3⟩ := vx_keep h0 e1 hS hAX hf hL hF
    obtain ⟨t2, a1, b1⟩ := kx E ce q u t T'.heap (locs ++ L) e1.symm (by rw [← e2]; exact X'.warmed.alike) hp hb k1 k2 k3 (by rw [e1]; exact hce) hcv hcl T' rfl X'
    exact ⟨t2, st.trans a1, b1⟩
theorem vx_calld {S SX : Type} {post : UInt64 → S → Prop} {px : SX → Prop} {B : S → State → Prop} {BX : String → SX → State → Prop} {AX : Nat → Prop} (hr : vx_Run p l e R s m args below meth c H locs cells slots mc ms (F0 m pc ls st0) rest (va_Qd post B A1 a) (vx_X px BX AX) free) (hS : va_S A0 H0 H locs) (hA : ∀ q, q < H.size → A1 q → A0 q) (hf : ∀ q, free q → A0 q) (hAX : ∀ q, q < H.size → AX q → A0 q)
    (kx : ∀ (E : String) (ce : Cell) (q9 : Addr) (u : SX) (t : State) (H1 : Heap) (locs1 : List Loc), t.heap = H1 → s.vm.Alike t.vm → px u → BX E u t → H.size ≤ H1.size → (∀ q : Nat, q < H.size → ¬ AX q → H1[q]? = H[q]?) → va_S A0 H0 H1 locs1 → H1[q9]? = some ce → ce.vm = .none → s.vm.findClass E = some ce.cls → vx_W p l e R s m args below meth c H1 locs1 (cells + mc) (slots + ms) Q (F0 m pc ls rest) q9)
    (kk : ∀ (r : UInt64) (u : S) (t : State) (H1 : Heap) (locs1 : List Loc), t.heap = H1 → s.vm.Alike t.vm → post r u → B u t → H.size ≤ H1.size → (∀ q : Nat, q < H.size → ¬ A1 q → H1[q]? = H[q]?) → va_S A0 H0 H1 locs1 → W p l e R s m args below meth c H1 locs1 (cells + mc) (slots + ms) Q (F0 m (pc + 3) ls (.double r :: rest))) : W p l e R s m args below meth c H locs cells slots Q (F0 m pc ls st0) := by
  intro T hT X
  rcases hr T hT X with ⟨v, st₀, t, T', L, h0, X', hL, e1, e2, ⟨⟨r, u, hv, hp, hb⟩, hF⟩, st⟩ | ⟨q, st₀, t, T', L, E, ce, h0, X', hL, e1, e2, ⟨u, hp, hb, hF⟩, hce, hcv, hcl, st⟩
  · cases hv
    obtain ⟨k1, k2, k3⟩ := vx_keep h0 e1 hS hA hf hL hF
    obtain ⟨t2, a1, b1⟩ := kk r u t T'.heap (locs ++ L) e1.symm (by rw [← e2]; exact X'.warmed.alike) hp hb k1 k2 k3 T' rfl X'
    exact ⟨t2, st t2 a1, b1⟩
  · obtain ⟨k1, k2, k3⟩ := vx_keep h0 e1 hS hAX hf hL hF
    obtain ⟨t2, a1, b1⟩ := kx E ce q u t T'.heap (locs ++ L) e1.symm (by rw [← e2]; exact X'.warmed.alike) hp hb k1 k2 k3 (by rw [e1]; exact hce) hcv hcl T' rfl X'
    exact ⟨t2, st.trans a1, b1⟩
theorem vx_callv {S SX : Type} {post : S → Prop} {px : SX → Prop} {B : S → State → Prop} {BX : String → SX → State → Prop} {AX : Nat → Prop} (hr : vx_Run p l e R s m args below meth c H locs cells slots mc ms (F0 m pc ls st0) rest (va_Qv post B A1 a) (vx_X px BX AX) free) (hS : va_S A0 H0 H locs) (hA : ∀ q, q < H.size → A1 q → A0 q) (hf : ∀ q, free q → A0 q) (hAX : ∀ q, q < H.size → AX q → A0 q)
    (kx : ∀ (E : String) (ce : Cell) (q9 : Addr) (u : SX) (t : State) (H1 : Heap) (locs1 : List Loc), t.heap = H1 → s.vm.Alike t.vm → px u → BX E u t → H.size ≤ H1.size → (∀ q : Nat, q < H.size → ¬ AX q → H1[q]? = H[q]?) → va_S A0 H0 H1 locs1 → H1[q9]? = some ce → ce.vm = .none → s.vm.findClass E = some ce.cls → vx_W p l e R s m args below meth c H1 locs1 (cells + mc) (slots + ms) Q (F0 m pc ls rest) q9)
    (kk : ∀ (u : S) (t : State) (H1 : Heap) (locs1 : List Loc), t.heap = H1 → s.vm.Alike t.vm → post u → B u t → H.size ≤ H1.size → (∀ q : Nat, q < H.size → ¬ A1 q → H1[q]? = H[q]?) → va_S A0 H0 H1 locs1 → W p l e R s m args below meth c H1 locs1 (cells + mc) (slots + ms) Q (F0 m (pc + 3) ls (rest))) : W p l e R s m args below meth c H locs cells slots Q (F0 m pc ls st0) := by
  intro T hT X
  rcases hr T hT X with ⟨v, st₀, t, T', L, h0, X', hL, e1, e2, ⟨⟨u, hv, hp, hb⟩, hF⟩, st⟩ | ⟨q, st₀, t, T', L, E, ce, h0, X', hL, e1, e2, ⟨u, hp, hb, hF⟩, hce, hcv, hcl, st⟩
  · cases hv
    obtain ⟨k1, k2, k3⟩ := vx_keep h0 e1 hS hA hf hL hF
    obtain ⟨t2, a1, b1⟩ := kk u t T'.heap (locs ++ L) e1.symm (by rw [← e2]; exact X'.warmed.alike) hp hb k1 k2 k3 T' rfl X'
    exact ⟨t2, st t2 a1, b1⟩
  · obtain ⟨k1, k2, k3⟩ := vx_keep h0 e1 hS hAX hf hL hF
    obtain ⟨t2, a1, b1⟩ := kx E ce q u t T'.heap (locs ++ L) e1.symm (by rw [← e2]; exact X'.warmed.alike) hp hb k1 k2 k3 (by rw [e1]; exact hce) hcv hcl T' rfl X'
    exact ⟨t2, st.trans a1, b1⟩
/-- caught by the row x of this method's table; the rows ahead don't take it -/
theorem vx_catch {own name : String} {E : String} {ce : Cell} {q : Addr} (hown : s.vm.findClass own = some m.cls) (pre : List ExceptionTableEntry) (x : ExceptionTableEntry) (suf : List ExceptionTableEntry) (hsplit : c.exceptionTable.toList = pre ++ x :: suf)
    (hpass : ∀ z ∈ pre, covers z pc = false ∨ (z.catchType ≠ 0 ∧ ∃ nm : String, (Cond.classLink own z.catchType nm).before args s = true ∧ va_Nc E nm s)) (hx : covers x pc = true) (h0 : x.catchType ≠ 0)
    (hlink : (Cond.classLink own x.catchType name).before args s = true) (hcast : (Cond.castable E name).before args s = true) (hcell : H[q]? = some ce) (hv : ce.vm = .none) (hcl : s.vm.findClass E = some ce.cls)
    (kk : W p l e R s m args below meth c H locs cells slots Q (F0 m x.handlerPc ls [.ref q])) : vx_W p l e R s m args below meth c H locs cells slots Q (F0 m pc ls rest) q := by
  intro T hT X
  have hpl : e.platform.magicAccessors = ({} : Platform).magicAccessors := by rw [X.admits.platform]
  obtain ⟨c3, c4, hc3, hc4, hasg⟩ := Cond.castable_spec hcast
  cases Option.some.inj (hc3.symm.trans hcl)
  obtain ⟨c5, hc5, hcl5⟩ := Cond.classLink_spec hown hlink e.platform hpl
  cases Option.some.inj (hc4.symm.trans hc5)
  obtain ⟨vm', X', st⟩ := X.thenCaughtThrough q (g := F0 m pc ls rest) rfl (Steps.refl _) (by rw [hT]; exact hcell) (by rw [hv]; rfl) (by obtain ⟨k9, h9, -⟩ := Vm.findClass_spec hcl; exact ⟨k9, h9⟩) pre x suf hsplit
    (fun z hz => by
      rcases hpass z hz with h | ⟨hz0, nm, hl1, hn1⟩
      · exact Or.inl h
      · obtain ⟨c6, hc6, hcl6⟩ := Cond.classLink_spec hown hl1 e.platform hpl
        obtain ⟨a8, b8, h1, h2, h3⟩ := hn1
        cases Option.some.inj (h1.symm.trans hcl)
        cases Option.some.inj (h2.symm.trans hc6)
        exact Or.inr ⟨hz0, _, hcl6, h3⟩) hx (Or.inr ⟨h0, c4, hcl5, hasg⟩)
  obtain ⟨t, a1, b1⟩ := kk (T.setVm vm') hT X'
  exact ⟨t, st.trans a1, b1⟩
end Rows
section Ends
variable {p : Program} {l : Launch} {e : Env} {R : Room} {s : State} {m : MethodId} {args : Array Value} {below : List Frame} {meth : Method} {c : Code} {H : Heap} {locs : List Loc} {cells slots : Nat} {Q : State → Prop}
variable {mc ms : Nat} {free : Addr → Prop} {A0 A1 : Nat → Prop} {H0 : Heap} {a : Array Value} {ls : Array Slot} {st0 rest : List Value}
variable {Qc : Array Value → State → Outcome → State → Prop} {XC : String → State → State → Prop}
/-- what a body that may throw owes at its end -/
def vx_MQ (below : List Frame) (Qc : Array Value → State → Outcome → State → Prop) (XC : String → State → State → Prop) (a : Array Value) (s : State) (mc ms : Nat) (free : Addr → Prop) : State → Prop := fun t =>
  ∃ o, t.status = .running ∧ Ended t below o ∧ vx_Q Qc XC mc ms free a s o t
theorem vx_ret {g : JFrame} {mc ms : Nat} (k : W p l e R s m args below meth c H locs cells slots (MQ below Qc args s mc ms free) g) : W p l e R s m args below meth c H locs cells slots (vx_MQ below Qc XC args s mc ms free) g := by
  intro T hT X
  obtain ⟨t, a1, o, b1, b2, b3, b4⟩ := k T hT X
  exact ⟨t, a1, o, b1, b2, Or.inl ⟨b3, b4⟩⟩
/-- not caught here: it goes on to the caller -/
theorem vx_widen {g : JFrame} {q : Addr} {k n : Nat} (h1 : cells ≤ k) (h2 : slots ≤ n) (kk : vx_W p l e R s m args below meth c H locs k n Q g q) : vx_W p l e R s m args below meth c H locs cells slots Q g q := fun T hT X => kk T hT (stand_widen X h1 h2)
theorem vx_out {pc : Nat} {E : String} {ce : Cell} {q : Addr} {mc ms : Nat} (hout : ∀ x ∈ c.exceptionTable.toList, covers x pc = false) (hlocks : meth.locks = false) (hcell : H[q]? = some ce) (hv : ce.vm = .none) (hcl : s.vm.findClass E = some ce.cls)
    (hx : ∀ t : State, t.heap = H → s.vm.Alike t.vm → XC E s t) (hf : ∀ z ∈ locs, free z.base) (hc : cells ≤ mc) (hs : slots ≤ ms) :
    vx_W p l e R s m args below meth c H locs cells slots (vx_MQ below Qc XC args s mc ms free) (F0 m pc ls rest) q := by
  intro T hT X
  obtain ⟨st1, hrun, hend, hW, hsm⟩ := X.leaveThrown q (g := F0 m pc ls rest) rfl rfl rfl hout hlocks
  have hcell9 : (T.setFrames (.throwing q :: below)).heap[q]? = some ce := by
    show T.heap[q]? = some ce
    rw [hT]; exact hcell
  exact ⟨_, st1, .threw q, hrun, hend, Or.inr ⟨q, rfl, E, ce, locs, hx _ hT hW.alike, hcell9, hv, hcl, hW, hsm.mono hc hs, hf⟩⟩
theorem vx_frame {U : State} {k n : Nat} (h : s.sameButNew ({ U with vm := s.vm } : State) locs k n) : s.heap.size ≤ U.heap.size ∧ ∀ q : Nat, q < s.heap.size → (∀ z ∈ locs, z.base ≠ q) → U.heap[q]? = s.heap[q]? := by
  obtain ⟨-, h2, -, -, -, h6⟩ := h
  refine ⟨h2, fun q hq hz => ?_⟩
  obtain ⟨c9, e1, e2, e3, e4⟩ := h6 q _ (Array.getElem?_eq_getElem hq)
  have hs : c9.slots = (s.heap[q]).slots := Array.ext_getElem? fun i => e4 i fun hm => hz _ hm rfl
  have h9 : c9 = s.heap[q] := by
    rw [hs] at e2
    exact e2
  have e5 : U.heap[q]? = some c9 := e1
  rw [e5, h9, Array.getElem?_eq_getElem hq]
/-- the words of a throw but the four that speak of the heap -/
def vx_no (w : Cond) : Bool := decide (w ≠ .isRef (.static Bundle.tN "UNASSIGNED_STACK" Bundle.steD)) && decide (w ≠ .isRef (.static Bundle.tN "SUPPRESSED_SENTINEL" Bundle.listD)) && decide (w ≠ .laysStatic Bundle.tN "UNASSIGNED_STACK" Bundle.steD) && decide (w ≠ .laysStatic Bundle.tN "SUPPRESSED_SENTINEL" Bundle.listD)
def vx_at0 (own : String) (ic : Nat) (X : String) (names : List String) : List Cond := (Bundle.ownAtoms0 own ic X names).filter vx_no
def vx_atS (own : String) (ic : Nat) (X : String) (names : List String) : List Cond := (Bundle.ownAtoms own ic X names).filter vx_no
/-- a word that the tables alone decide, or a good one -/
def vx_ot (w : Cond) : Bool := w.onTables || goodWord w
theorem vx_ot_at {args a' : Array Value} {s U : State} {w : Cond} (hW : s.WarmedH U.vm) (hvm : s.vm = U.vm) (hg : vx_ot w = true) (h : w.before args s = true) : w.before a' U = true := by
  simp only [vx_ot, Bool.or_eq_true] at hg
  rcases hg with hg | hg
  · exact va_tabs hg hvm h
  · exact word_at hW (good_of_word hg) h
/-- a list's words: the good ones out of the method's own list, the others by premises of their own -/
theorem vx_hat {args : Array Value} {s : State} {L B : List Cond} (h1 : ∀ w ∈ L.filter goodWord, w.before args s = true) (h2 : ∀ w ∈ L.filter (fun w => !goodWord w), w ∈ B) (h3 : ∀ w ∈ B, w.before args s = true) : ∀ w ∈ L, w.before args s = true := by
  intro w hw
  by_cases g : goodWord w = true
  · exact h1 w (List.mem_filter.mpr ⟨hw, g⟩)
  · refine h3 w (h2 w (List.mem_filter.mpr ⟨hw, ?_⟩))
    show (!goodWord w) = true
    cases hgw : goodWord w
    · rfl
    · exact absurd hgw g
theorem vx_c {args : Array Value} {s : State} {w : Cond} {B : List Cond} (h : w.before args s = true) (t : ∀ w ∈ B, w.before args s = true) : ∀ w' ∈ w :: B, w'.before args s = true := fun w' h' => (List.mem_cons.mp h').elim (fun e => by rw [e]; exact h) (t w')
theorem vx_n {args : Array Value} {s : State} : ∀ w ∈ ([] : List Cond), w.before args s = true := fun _ h => nomatch h
theorem vx_own {args : Array Value} {s : State} {L : List Cond} (h1 : ∀ w ∈ L.filter vx_no, w.before args s = true)
    (hU : (Cond.isRef (.static Bundle.tN "UNASSIGNED_STACK" Bundle.steD)).before args s = true) (hN : (Cond.isRef (.static Bundle.tN "SUPPRESSED_SENTINEL" Bundle.listD)).before args s = true)
    (lU : (Cond.laysStatic Bundle.tN "UNASSIGNED_STACK" Bundle.steD).before args s = true) (lN : (Cond.laysStatic Bundle.tN "SUPPRESSED_SENTINEL" Bundle.listD).before args s = true) : ∀ w ∈ L, w.before args s = true := by
  intro w hw
  by_cases e1 : w = .isRef (.static Bundle.tN "UNASSIGNED_STACK" Bundle.steD)
  · rw [e1]; exact hU
  · by_cases e2 : w = .isRef (.static Bundle.tN "SUPPRESSED_SENTINEL" Bundle.listD)
    · rw [e2]; exact hN
    · by_cases e3 : w = .laysStatic Bundle.tN "UNASSIGNED_STACK" Bundle.steD
      · rw [e3]; exact lU
      · by_cases e4 : w = .laysStatic Bundle.tN "SUPPRESSED_SENTINEL" Bundle.listD
        · rw [e4]; exact lN
        · exact h1 w (List.mem_filter.mpr ⟨hw, by unfold vx_no; rw [decide_eq_true e1, decide_eq_true e2, decide_eq_true e3, decide_eq_true e4]; rfl⟩)
/-- where a static field lies, its class's statics cell in H -/
def vx_L (C n d : String) (A : Nat → Prop) (U : State) (H : Heap) : Prop := ∃ (c : ClassId) (k : Class) (i : Nat) (f : Field) (a : Nat) (cell : Cell), U.vm.findClass C = some c ∧ U.fieldFound? C n d = some (c, k, i, f) ∧ f.isStatic = true ∧ k.statics = some a ∧ H[a]? = some cell ∧ cell.vm.isStatics = true ∧ cell.cls = c ∧ f.slot < cell.slots.size ∧ k.staticTypes[f.slot]? = some f.type ∧ ¬ A a
theorem vx_L.moved {C n d : String} {A : Nat → Prop} {u U : State} {H : Heap} (hvm : u.vm.Alike U.vm) (h : vx_L C n d A u H) : vx_L C n d A U H := by
  obtain ⟨c, k, i, f, a, cell, h1, h2, h3, h4, h5, h6, h7, h8, h9, h10⟩ := h
  obtain ⟨k', hi', he⟩ := State.fieldFound?_setVm hvm h2
  exact ⟨c, k', i, f, a, cell, by rw [hvm.findClass]; exact h1, hi', h3, by rw [he]; exact h4, h5, h6, h7, h8, by rw [he]; exact h9, h10⟩
theorem vx_L.kept {C n d : String} {A : Nat → Prop} {U : State} {H H1 : Heap} (h : vx_L C n d A U H) (hq : ∀ a : Nat, a < H.size → ¬ A a → H1[a]? = H[a]?) : vx_L C n d A U H1 := by
  obtain ⟨c, k, i, f, a, cell, h1, h2, h3, h4, h5, h6, h7, h8, h9, h10⟩ := h
  exact ⟨c, k, i, f, a, cell, h1, h2, h3, h4, by rw [hq a (Array.getElem?_eq_some_iff.mp h5).1 h10]; exact h5, h6, h7, h8, h9, h10⟩
theorem vx_L.narrow {C n d : String} {A B : Nat → Prop} {U : State} {H : Heap} (h : vx_L C n d A U H) (hAB : ∀ q, B q → A q) : vx_L C n d B U H := by
  obtain ⟨c, k, i, f, a, cell, h1, h2, h3, h4, h5, h6, h7, h8, h9, h10⟩ := h
  exact ⟨c, k, i, f, a, cell, h1, h2, h3, h4, h5, h6, h7, h8, h9, fun z => h10 (hAB _ z)⟩
theorem vx_L.word {C n d : String} {A : Nat → Prop} {s : State} {args : Array Value} (h : vx_L C n d A s s.heap) : (Cond.laysStatic C n d).before args s = true := by
  obtain ⟨c, k, i, f, a, cell, h1, h2, h3, h4, h5, h6, h7, h8, h9, -⟩ := h
  show (Cond.laysStatic C n d).holds args s none s [] = true
  exact Cond.laysStatic_of h1 h2 h3 h4 h5 h6 h7 h8 h9
/-- .. and what it holds: null or some reference -/
def vx_Zq (C n d : String) (A : Nat → Prop) (U : State) (H : Heap) : Prop := va_Zq C n d A U H ∧ vx_L C n d A U H
theorem vx_Zq.moved {C n d : String} {A : Nat → Prop} {u U : State} {H : Heap} (hvm : u.vm.Alike U.vm) (h : vx_Zq C n d A u H) : vx_Zq C n d A U H := ⟨va_Zq.moved hvm h.1, vx_L.moved hvm h.2⟩
theorem vx_Zq.kept {C n d : String} {A : Nat → Prop} {U : State} {H H1 : Heap} (h : vx_Zq C n d A U H) (hq : ∀ a : Nat, a < H.size → ¬ A a → H1[a]? = H[a]?) : vx_Zq C n d A U H1 := ⟨va_Zq.kept h.1 hq, vx_L.kept h.2 hq⟩
theorem vx_Zq.narrow {C n d : String} {A B : Nat → Prop} {U : State} {H : Heap} (h : vx_Zq C n d A U H) (hAB : ∀ q, B q → A q) : vx_Zq C n d B U H := ⟨va_Zq.narrow h.1 hAB, vx_L.narrow h.2 hAB⟩
theorem vx_Zqof {args : Array Value} {s : State} {C n d : String} {A : Nat → Prop} (hl : (Cond.laysStatic C n d).before args s = true) (hini : (Cond.initialized C).before args s = true) (h : (Cond.isRef (.static C n d)).before args s = true) (hA : ∀ a : Nat, a < s.heap.size → ¬ A a) : vx_Zq C n d A s s.heap := by
  refine ⟨va_Zqof hl hini h hA, ?_⟩
  obtain ⟨c, k, i, f, a, cell, h1, h2, h3, h4, h5, h6, h7, h8, h9⟩ := Cond.laysStatic_spec hl
  exact ⟨c, k, i, f, a, cell, h1, h2, h3, h4, h5, h6, h7, h8, h9, hA a (Array.getElem?_eq_some_iff.mp h5).1⟩
theorem vx_isRef {C n d : String} {v : Value} {A : Nat → Prop} {s : State} {args : Array Value} (h : va_Z C n d v A s s.heap) (hv : v.isRef = true) : (Cond.isRef (.static C n d)).before args s = true := by
  obtain ⟨cf, kf, fi, f, a, cell, h1, h2, h3, h4, h5, h6, h7, -⟩ := h
  have he : (Term.static C n d).eval args s none [] s = some v := by
    simp [Term.eval, State.fieldNamed?, h1, h2, h4, h5, h6, h7]
  simp only [Cond.before, Cond.holds, Cond.value, he]
  cases v <;> simp_all [Value.isRef]
theorem vx_isRefq {C n d : String} {A : Nat → Prop} {s : State} {args : Array Value} (h : va_Zq C n d A s s.heap) : (Cond.isRef (.static C n d)).before args s = true := by
  rcases h with h | ⟨t, h⟩
  · exact vx_isRef h rfl
  · exact vx_isRef h rfl
/-- the same frame, seen from here: as if the method were called anew in this heap -/
theorem vx_rebase {T : State} (X : Stand p l e R s m args below meth c T locs cells slots) {R' : Room} (hf : R'.frames ≤ R.frames) (hl : R'.locals ≤ R.locals) (hc : cells + R'.cells ≤ R.cells) (hs : slots + R'.slots ≤ R.slots) :
    Stand p l e R' ((T.setVm s.vm).setFrames (.invoking m args :: below)) m args below meth c T [] 0 0 := by
  have htop : (T.setVm s.vm).topJava?.isSome := X.here.top
  have hF : ((T.setVm s.vm).setFrames (.invoking m args :: below)).frames = .invoking m args :: below := State.frames_setFrames _ (State.cur_lt_of_top htop)
  obtain ⟨g₀, hg0⟩ := Option.isSome_iff_exists.mp htop
  obtain ⟨r, hr⟩ := State.topJava?_eq_some.mp hg0
  have hl9 : e.platform.stackLimits (T.setVm s.vm).me = e.platform.stackLimits s.me := X.limits
  have hb9 : (T.setVm s.vm).me.stackBytes = s.me.stackBytes := X.bytes
  refine ⟨X.admits, X.cas, X.clock, hF, ?_, X.hears, X.method, X.code, X.here, X.tail, X.warmed, ?_, ?_, ?_⟩
  · have h := X.room
    have hU : ((T.setVm s.vm).setFrames (.invoking m args :: below)).localsInUse = s.localsInUse := by
      rw [State.localsInUse_invoking hF (meth := meth) (c := c) X.method X.code, State.localsInUse_invoking X.frames X.method X.code]
    simp only [State.hasRoom, Bool.and_eq_true, decide_eq_true_eq] at h ⊢
    obtain ⟨⟨⟨⟨h1, h2, h3, h4, h5, h6⟩, h7⟩, h8⟩, h9⟩ := h
    rw [X.frames, List.length_cons] at h2 h3
    have q1 := X.heapSize
    have q2 := X.used
    simp only [hF, hU, List.length_cons, State.stackLimits_setFrames, State.stackBytes_setFrames, hl9, hb9]
    refine ⟨⟨⟨⟨by omega, by omega, by omega, by omega, by omega, h6⟩, ?_⟩, ?_⟩, X.book⟩
    · show T.heap.size + R'.cells ≤ e.platform.maxCells
      omega
    · show T.slotsUsed + R'.slots ≤ e.platform.maxSlots
      omega
  · rw [State.stackLimits_setFrames]; rfl
  · rw [State.stackBytes_setFrames]; rfl
  · refine ⟨?_, Nat.le_refl _, Nat.le_refl _, ?_, ?_, fun a c9 h9 => ⟨c9, h9, rfl, rfl, fun _ _ => rfl⟩⟩
    · obtain ⟨t, ht, -⟩ := State.frames_cons hr
      show T.setVm s.vm = { ((T.setVm s.vm).setFrames (.invoking m args :: below)).setFrames (T.setVm s.vm).frames with heap := T.heap, slotsUsed := T.slotsUsed }
      rw [State.setFrames_setFrames, State.setFrames_self ht]
      rfl
    · show T.slotsUsed = T.slotsUsed + ((T.heap.toList.drop T.heap.size).map (·.slots.size)).sum
      rw [List.drop_eq_nil_of_le (Nat.le_of_eq Array.length_toList)]
      rfl
    · show ((T.heap.toList.drop T.heap.size).map (·.slots.size)).sum ≤ 0
      rw [List.drop_eq_nil_of_le (Nat.le_of_eq Array.length_toList)]
      exact Nat.le_refl _
/-- 'throw new E()': new; dup; invokespecial; athrow -/
theorem vx_throw0 {cc : ByteArray} {pc : Nat} (hexec : p.tables.exec = Jvm.exec) (hb : c.code = cc) (hl : l.stackTraces = false) {own cls : String} {names : List String} {ik ic mc ms : Nat} {A : Nat → Prop}
    (hown : s.vm.findClass own = some m.cls) (hcls : Bundle.fit cls = true) (hnames : ∀ n ∈ names, Bundle.fit n = true)
    (hk : (Cond.classLink own ik cls).before args s = true) (hini : (Cond.initialized cls).before args s = true) (hat : ∀ w ∈ vx_at0 own ic cls names, w.before args s = true)
    (hgood : ∀ w ∈ Cond.classLink own ik cls :: Cond.initialized cls :: vx_at0 own ic cls names, vx_ot w = true)
    (hU : vx_Zq Bundle.tN "UNASSIGNED_STACK" Bundle.steD A s s.heap) (hN : vx_Zq Bundle.tN "SUPPRESSED_SENTINEL" Bundle.listD A s s.heap) (hS : va_S A s.heap H locs) (hsize : ls.size = c.maxLocals)
    (d0 : decode cc pc = .ok (.new ik, 3)) (d3 : decode cc (pc + 3) = .ok (.dup, 1)) (d4 : decode cc (pc + 4) = .ok (.invokespecial ic, 3)) (d7 : decode cc (pc + 7) = .ok (.athrow, 1))
    (hout : ∀ x ∈ c.exceptionTable.toList, covers x (pc + 7) = false)
    (hRframes : names.length + 3 < R.frames) (hRlocals : (rest.map fun v => v.category).sum + (13 * (names.length + 1) + 42) ≤ R.locals) (hRcells : cells + 1 ≤ R.cells) (hRslots : slots + 6 ≤ R.slots) (hlocks : meth.locks = false)
    (hx : ∀ t : State, s.vm.Alike t.vm → H.size ≤ t.heap.size → (∀ q : Nat, q < H.size → t.heap[q]? = H[q]?) → XC cls s t)
    (hf : ∀ z ∈ locs, free z.base) (hc : cells + 1 ≤ mc) (hs : slots + 6 ≤ ms) :
    W p l e R s m args below meth c H locs cells slots (vx_MQ below Qc XC args s mc ms free) (F0 m pc ls rest) := by
  intro T hT X
  have htr : e.platform.stackTraces = false := (show e.platform.stackTraces = l.stackTraces by rw [X.admits.platform]).trans hl
  have Y := vx_rebase X (R' := { frames := R.frames, locals := R.locals, cells := 1, slots := 6 }) (Nat.le_refl _) (Nat.le_refl _) hRcells hRslots
  obtain ⟨s', hA⟩ : ∃ z, z = (T.setVm s.vm).setFrames (.invoking m args :: below) := ⟨_, rfl⟩
  rw [← hA] at Y
  have hvm : s'.vm = s.vm := by rw [hA]; rfl
  have hhp : s'.heap = H := by rw [hA]; exact hT
  have hW0 : s.WarmedH s'.vm := by rw [hvm]; exact State.WarmedH.refl s
  have hat' : ∀ w ∈ vx_at0 own ic cls names, w.before args s' = true := fun w hw => vx_ot_at hW0 hvm.symm (hgood w (List.mem_cons_of_mem _ (List.mem_cons_of_mem _ hw))) (hat w hw)
  have hk' : (Cond.classLink own ik cls).before args s' = true := vx_ot_at hW0 hvm.symm (hgood _ List.mem_cons_self) hk
  have hini' : (Cond.initialized cls).before args s' = true := vx_ot_at hW0 hvm.symm (hgood _ (List.mem_cons_of_mem _ List.mem_cons_self)) hini
  have hU' : vx_Zq Bundle.tN "UNASSIGNED_STACK" Bundle.steD A s' s'.heap := by rw [hhp]; exact vx_Zq.moved hW0.alike (hU.kept hS.2.1)
  have hN' : vx_Zq Bundle.tN "SUPPRESSED_SENTINEL" Bundle.listD A s' s'.heap := by rw [hhp]; exact vx_Zq.moved hW0.alike (hN.kept hS.2.1)
  have h : ∀ w ∈ Bundle.ownAtoms0 own ic cls names, w.before args s' = true := vx_own hat' (vx_isRefq hU'.1) (vx_isRefq hN'.1) hU'.2.word hN'.2.word
  have hown' : s'.vm.findClass own = some m.cls := by rw [hvm]; exact hown
  have hins : (Cond.instantiable cls 6).before args s' = true := h _ (by simp [Bundle.ownAtoms0])
  obtain ⟨vm₁, cX, kX, hfX, hkX, -, -, X₁, st1⟩ := Y.newCold hexec (own := own) (C := cls) (index := ik) (n := 6) hown' hk' hins hini'
    (g := F0 m pc ls rest) rfl (by rw [hb]; exact d0) (Nat.le_refl _) (Nat.le_refl _)
  generalize hT1 : (T.setVm vm₁).pushCell { cls := cX, slots := kX.instanceTypes.map defaultValue, vm := .none } = T1 at X₁ st1
  have hcat : (Value.ref T.heap.size).category = 1 := rfl
  have hcellA : T1.heap[T.heap.size]? = some (freshCell cX kX) := by rw [← hT1]; exact State.heap_pushCell_size _ _
  have d3' : decode c.code (pc + 3) = .ok (.dup, 1) := by rw [hb]; exact d3
  obtain ⟨U, hsteps, hrun, hend, hW, hsame, ce, hce, hO⟩ := X₁.ctorThrow0 hexec htr (own := own) (cls := cls) (names := names) (ic := ic) hown' hcls hnames h (fun x hx => nomatch hx) hfX hkX hcellA (by rw [hhp, hT]; exact Nat.le_refl _)
    (g := { method := m, pc := pc + 4, locals := ls, stack := .ref T.heap.size :: .ref T.heap.size :: rest, locked := none }) rfl hsize rfl rfl (rest := rest) rfl
    (by rw [hb]; exact d4) (by rw [hb]; exact d7) hout hRframes (by simp only [List.map_cons, List.sum_cons, hcat]; omega) hlocks
  obtain ⟨f1, f2⟩ := vx_frame hsame
  rw [hhp] at f1 f2
  have hWs : s.WarmedH U.vm := State.WarmedH.trans hW0 hW
  have hcl : s.vm.findClass cls = some ce.cls := by
    have h9 := hO.cls
    rw [hvm] at h9
    exact h9
  have hall : s.sameButNew ({ U with vm := s.vm } : State) locs mc ms := by
    subst hA
    obtain ⟨e1, e2⟩ := hsame
    rw [State.setFrames_setFrames] at e1
    have h2 : (T.setVm s.vm).sameButNew ({ U with vm := s.vm } : State) [] (0 + 1) (0 + 6) := ⟨e1, e2⟩
    have h3 := X.same.trans h2
    rw [List.append_nil] at h3
    exact h3.mono hc hs
  refine ⟨U, ?_, .threw T.heap.size, hrun, hend, Or.inr ⟨T.heap.size, rfl, cls, ce, locs, hx U hWs.alike f1 (fun q hq => f2 q hq (fun z hz => nomatch hz)), hce, hO.vm, hcl, hWs, hall, hf⟩⟩
  refine st1 _ ?_
  show Steps p.tables e below (T1.setTop { method := m, pc := pc + 3, locals := ls, stack := .ref T.heap.size :: rest, locked := none }) _
  jvm_step X₁.here [X₁.here.top, hexec, d3', Value.category]
  exact hsteps
/-- 'throw new E("text")': new; dup; ldc; invokespecial; athrow -/
theorem vx_throwS {cc : ByteArray} {pc : Nat} (hexec : p.tables.exec = Jvm.exec) (hb : c.code = cc) (hl : l.stackTraces = false) {own cls text : String} {names : List String} {ik is ic mc ms sa : Nat} {A : Nat → Prop}
    (hown : s.vm.findClass own = some m.cls) (hcls : Bundle.fit cls = true) (hnames : ∀ n ∈ names, Bundle.fit n = true)
    (hk : (Cond.classLink own ik cls).before args s = true) (hini : (Cond.initialized cls).before args s = true) (hstr : vk_R own is text sa s) (hat : ∀ w ∈ vx_atS own ic cls names, w.before args s = true)
    (hgood : ∀ w ∈ Cond.classLink own ik cls :: Cond.initialized cls :: vx_atS own ic cls names, vx_ot w = true)
    (hU : vx_Zq Bundle.tN "UNASSIGNED_STACK" Bundle.steD A s s.heap) (hN : vx_Zq Bundle.tN "SUPPRESSED_SENTINEL" Bundle.listD A s s.heap) (hS : va_S A s.heap H locs) (hsize : ls.size = c.maxLocals)
    (d0 : decode cc pc = .ok (.new ik, 3)) (d3 : decode cc (pc + 3) = .ok (.dup, 1)) (d4 : decode cc (pc + 4) = .ok (.ldc is, 2)) (d6 : decode cc (pc + 6) = .ok (.invokespecial ic, 3)) (d9 : decode cc (pc + 9) = .ok (.athrow, 1))
    (hout : ∀ x ∈ c.exceptionTable.toList, covers x (pc + 9) = false)
    (hRframes : names.length + 3 < R.frames) (hRlocals : (rest.map fun v => v.category).sum + (13 * (names.length + 1) + 43) ≤ R.locals) (hRcells : cells + 1 ≤ R.cells) (hRslots : slots + 6 ≤ R.slots) (hlocks : meth.locks = false)
    (hx : ∀ t : State, s.vm.Alike t.vm → H.size ≤ t.heap.size → (∀ q : Nat, q < H.size → t.heap[q]? = H[q]?) → XC cls s t)
    (hf : ∀ z ∈ locs, free z.base) (hc : cells + 1 ≤ mc) (hs : slots + 6 ≤ ms) :
    W p l e R s m args below meth c H locs cells slots (vx_MQ below Qc XC args s mc ms free) (F0 m pc ls rest) := by
  intro T hT X
  have htr : e.platform.stackTraces = false := (show e.platform.stackTraces = l.stackTraces by rw [X.admits.platform]).trans hl
  have Y := vx_rebase X (R' := { frames := R.frames, locals := R.locals, cells := 1, slots := 6 }) (Nat.le_refl _) (Nat.le_refl _) hRcells hRslots
  obtain ⟨s', hA⟩ : ∃ z, z = (T.setVm s.vm).setFrames (.invoking m args :: below) := ⟨_, rfl⟩
  rw [← hA] at Y
  have hvm : s'.vm = s.vm := by rw [hA]; rfl
  have hhp : s'.heap = H := by rw [hA]; exact hT
  have hW0 : s.WarmedH s'.vm := by rw [hvm]; exact State.WarmedH.refl s
  have hat' : ∀ w ∈ vx_atS own ic cls names, w.before args s' = true := fun w hw => vx_ot_at hW0 hvm.symm (hgood w (List.mem_cons_of_mem _ (List.mem_cons_of_mem _ hw))) (hat w hw)
  have hk' : (Cond.classLink own ik cls).before args s' = true := vx_ot_at hW0 hvm.symm (hgood _ List.mem_cons_self) hk
  have hini' : (Cond.initialized cls).before args s' = true := vx_ot_at hW0 hvm.symm (hgood _ (List.mem_cons_of_mem _ List.mem_cons_self)) hini
  have hU' : vx_Zq Bundle.tN "UNASSIGNED_STACK" Bundle.steD A s' s'.heap := by rw [hhp]; exact vx_Zq.moved hW0.alike (hU.kept hS.2.1)
  have hN' : vx_Zq Bundle.tN "SUPPRESSED_SENTINEL" Bundle.listD A s' s'.heap := by rw [hhp]; exact vx_Zq.moved hW0.alike (hN.kept hS.2.1)
  have h : ∀ w ∈ Bundle.ownAtoms own ic cls names, w.before args s' = true := vx_own hat' (vx_isRefq hU'.1) (vx_isRefq hN'.1) hU'.2.word hN'.2.word
  have hown' : s'.vm.findClass own = some m.cls := by rw [hvm]; exact hown
  have hins : (Cond.instantiable cls 6).before args s' = true := h _ (by simp [Bundle.ownAtoms])
  obtain ⟨vm₁, cX, kX, hfX, hkX, -, -, X₁, st1⟩ := Y.newCold hexec (own := own) (C := cls) (index := ik) (n := 6) hown' hk' hins hini'
    (g := F0 m pc ls rest) rfl (by rw [hb]; exact d0) (Nat.le_refl _) (Nat.le_refl _)
  generalize hT1 : (T.setVm vm₁).pushCell { cls := cX, slots := kX.instanceTypes.map defaultValue, vm := .none } = T1 at X₁ st1
  have hcat : (Value.ref T.heap.size).category = 1 := rfl
  have hcellA : T1.heap[T.heap.size]? = some (freshCell cX kX) := by rw [← hT1]; exact State.heap_pushCell_size _ _
  have d3' : decode c.code (pc + 3) = .ok (.dup, 1) := by rw [hb]; exact d3
  have d4' : decode c.code (pc + 4) = .ok (.ldc is, 2) := by rw [hb]; exact d4
  have hstr' : vk_R own is text sa s' := vk_R.warm hW0 hstr
  obtain ⟨U, hsteps, hrun, hend, hW, hsame, ce, hce, hO⟩ := X₁.ctorThrowS hexec htr (own := own) (cls := cls) (names := names) (ic := ic) hown' hcls hnames h (fun x hx => nomatch hx) hfX hkX hcellA (by rw [hhp, hT]; exact Nat.le_refl _) (msg := .ref sa) rfl
    (g := { method := m, pc := pc + 6, locals := ls, stack := .ref sa :: .ref T.heap.size :: .ref T.heap.size :: rest, locked := none }) rfl hsize rfl rfl (rest := rest) rfl
    (by rw [hb]; exact d6) (by rw [hb]; exact d9) hout hRframes (by simp only [List.map_cons, List.sum_cons, hcat]; omega) hlocks
  obtain ⟨f1, f2⟩ := vx_frame hsame
  rw [hhp] at f1 f2
  have hWs : s.WarmedH U.vm := State.WarmedH.trans hW0 hW
  have hcl : s.vm.findClass cls = some ce.cls := by
    have h9 := hO.cls
    rw [hvm] at h9
    exact h9
  have hall : s.sameButNew ({ U with vm := s.vm } : State) locs mc ms := by
    subst hA
    obtain ⟨e1, e2⟩ := hsame
    rw [State.setFrames_setFrames] at e1
    have h2 : (T.setVm s.vm).sameButNew ({ U with vm := s.vm } : State) [] (0 + 1) (0 + 6) := ⟨e1, e2⟩
    have h3 := X.same.trans h2
    rw [List.append_nil] at h3
    exact h3.mono hc hs
  refine ⟨U, ?_, .threw T.heap.size, hrun, hend, Or.inr ⟨T.heap.size, rfl, cls, ce, locs, hx U hWs.alike f1 (fun q hq => f2 q hq (fun z hz => nomatch hz)), hce, hO.vm, hcl, hWs, hall, hf⟩⟩
  refine st1 _ ?_
  show Steps p.tables e below (T1.setTop { method := m, pc := pc + 3, locals := ls, stack := .ref T.heap.size :: rest, locked := none }) _
  jvm_step X₁.here [X₁.here.top, hexec, d3', Value.category]
  exact X₁.ldcString hexec (own := own) (text := text) (index := is) (a := sa) hown' hstr'.1 hstr'.2
    (g := { method := m, pc := pc + 4, locals := ls, stack := .ref T.heap.size :: .ref T.heap.size :: rest, locked := none }) rfl d4' _ hsteps
/-- 'throw new E("text")', the text by a wide index -/
theorem vx_throwSW {cc : ByteArray} {pc : Nat} (hexec : p.tables.exec = Jvm.exec) (hb : c.code = cc) (hl : l.stackTraces = false) {own cls text : String} {names : List String} {ik is ic mc ms sa : Nat} {A : Nat → Prop}
    (hown : s.vm.findClass own = some m.cls) (hcls : Bundle.fit cls = true) (hnames : ∀ n ∈ names, Bundle.fit n = true)
    (hk : (Cond.classLink own ik cls).before args s = true) (hini : (Cond.initialized cls).before args s = true) (hstr : vk_R own is text sa s) (hat : ∀ w ∈ vx_atS own ic cls names, w.before args s = true)
    (hgood : ∀ w ∈ Cond.classLink own ik cls :: Cond.initialized cls :: vx_atS own ic cls names, vx_ot w = true)
    (hU : vx_Zq Bundle.tN "UNASSIGNED_STACK" Bundle.steD A s s.heap) (hN : vx_Zq Bundle.tN "SUPPRESSED_SENTINEL" Bundle.listD A s s.heap) (hS : va_S A s.heap H locs) (hsize : ls.size = c.maxLocals)
    (d0 : decode cc pc = .ok (.new ik, 3)) (d3 : decode cc (pc + 3) = .ok (.dup, 1)) (d4 : decode cc (pc + 4) = .ok (.ldc_w is, 3)) (d7 : decode cc (pc + 7) = .ok (.invokespecial ic, 3)) (d10 : decode cc (pc + 10) = .ok (.athrow, 1))
    (hout : ∀ x ∈ c.exceptionTable.toList, covers x (pc + 10) = false)
    (hRframes : names.length + 3 < R.frames) (hRlocals : (rest.map fun v => v.category).sum + (13 * (names.length + 1) + 43) ≤ R.locals) (hRcells : cells + 1 ≤ R.cells) (hRslots : slots + 6 ≤ R.slots) (hlocks : meth.locks = false)
    (hx : ∀ t : State, s.vm.Alike t.vm → H.size ≤ t.heap.size → (∀ q : Nat, q < H.size → t.heap[q]? = H[q]?) → XC cls s t)
    (hf : ∀ z ∈ locs, free z.base) (hc : cells + 1 ≤ mc) (hs : slots + 6 ≤ ms) :
    W p l e R s m args below meth c H locs cells slots (vx_MQ below Qc XC args s mc ms free) (F0 m pc ls rest) := by
  intro T hT X
  have htr : e.platform.stackTraces = false := (show e.platform.stackTraces = l.stackTraces by rw [X.admits.platform]).trans hl
  have Y := vx_rebase X (R' := { frames := R.frames, locals := R.locals, cells := 1, slots := 6 }) (Nat.le_refl _) (Nat.le_refl _) hRcells hRslots
  obtain ⟨s', hA⟩ : ∃ z, z = (T.setVm s.vm).setFrames (.invoking m args :: below) := ⟨_, rfl⟩
  rw [← hA] at Y
  have hvm : s'.vm = s.vm := by rw [hA]; rfl
  have hhp : s'.heap = H := by rw [hA]; exact hT
  have hW0 : s.WarmedH s'.vm := by rw [hvm]; exact State.WarmedH.refl s
  have hat' : ∀ w ∈ vx_atS own ic cls names, w.before args s' = true := fun w hw => vx_ot_at hW0 hvm.symm (hgood w (List.mem_cons_of_mem _ (List.mem_cons_of_mem _ hw))) (hat w hw)
  have hk' : (Cond.classLink own ik cls).before args s' = true := vx_ot_at hW0 hvm.symm (hgood _ List.mem_cons_self) hk
  have hini' : (Cond.initialized cls).before args s' = true := vx_ot_at hW0 hvm.symm (hgood _ (List.mem_cons_of_mem _ List.mem_cons_self)) hini
  have hU' : vx_Zq Bundle.tN "UNASSIGNED_STACK" Bundle.steD A s' s'.heap := by rw [hhp]; exact vx_Zq.moved hW0.alike (hU.kept hS.2.1)
  have hN' : vx_Zq Bundle.tN "SUPPRESSED_SENTINEL" Bundle.listD A s' s'.heap := by rw [hhp]; exact vx_Zq.moved hW0.alike (hN.kept hS.2.1)
  have h : ∀ w ∈ Bundle.ownAtoms own ic cls names, w.before args s' = true := vx_own hat' (vx_isRefq hU'.1) (vx_isRefq hN'.1) hU'.2.word hN'.2.word
  have hown' : s'.vm.findClass own = some m.cls := by rw [hvm]; exact hown
  have hins : (Cond.instantiable cls 6).before args s' = true := h _ (by simp [Bundle.ownAtoms])
  obtain ⟨vm₁, cX, kX, hfX, hkX, -, -, X₁, st1⟩ := Y.newCold hexec (own := own) (C := cls) (index := ik) (n := 6) hown' hk' hins hini'
    (g := F0 m pc ls rest) rfl (by rw [hb]; exact d0) (Nat.le_refl _) (Nat.le_refl _)
  generalize hT1 : (T.setVm vm₁).pushCell { cls := cX, slots := kX.instanceTypes.map defaultValue, vm := .none } = T1 at X₁ st1
  have hcat : (Value.ref T.heap.size).category = 1 := rfl
  have hcellA : T1.heap[T.heap.size]? = some (freshCell cX kX) := by rw [← hT1]; exact State.heap_pushCell_size _ _
  have d3' : decode c.code (pc + 3) = .ok (.dup, 1) := by rw [hb]; exact d3
  have d4' : decode c.code (pc + 4) = .ok (.ldc_w is, 3) := by rw [hb]; exact d4
  have hstr' : vk_R own is text sa s' := vk_R.warm hW0 hstr
  obtain ⟨U, hsteps, hrun, hend, hW, hsame, ce, hce, hO⟩ := X₁.ctorThrowS hexec htr (own := own) (cls := cls) (names := names) (ic := ic) hown' hcls hnames h (fun x hx => nomatch hx) hfX hkX hcellA (by rw [hhp, hT]; exact Nat.le_refl _) (msg := .ref sa) rfl
    (g := { method := m, pc := pc + 7, locals := ls, stack := .ref sa :: .ref T.heap.size :: .ref T.heap.size :: rest, locked := none }) rfl hsize rfl rfl (rest := rest) rfl
    (by rw [hb]; exact d7) (by rw [hb]; exact d10) hout hRframes (by simp only [List.map_cons, List.sum_cons, hcat]; omega) hlocks
  obtain ⟨f1, f2⟩ := vx_frame hsame
  rw [hhp] at f1 f2
  have hWs : s.WarmedH U.vm := State.WarmedH.trans hW0 hW
  have hcl : s.vm.findClass cls = some ce.cls := by
    have h9 := hO.cls
    rw [hvm] at h9
    exact h9
  have hall : s.sameButNew ({ U with vm := s.vm } : State) locs mc ms := by
    subst hA
    obtain ⟨e1, e2⟩ := hsame
    rw [State.setFrames_setFrames] at e1
    have h2 : (T.setVm s.vm).sameButNew ({ U with vm := s.vm } : State) [] (0 + 1) (0 + 6) := ⟨e1, e2⟩
    have h3 := X.same.trans h2
    rw [List.append_nil] at h3
    exact h3.mono hc hs
  refine ⟨U, ?_, .threw T.heap.size, hrun, hend, Or.inr ⟨T.heap.size, rfl, cls, ce, locs, hx U hWs.alike f1 (fun q hq => f2 q hq (fun z hz => nomatch hz)), hce, hO.vm, hcl, hWs, hall, hf⟩⟩
  refine st1 _ ?_
  show Steps p.tables e below (T1.setTop { method := m, pc := pc + 3, locals := ls, stack := .ref T.heap.size :: rest, locked := none }) _
  jvm_step X₁.here [X₁.here.top, hexec, d3', Value.category]
  exact X₁.ldcStringW hexec (own := own) (text := text) (index := is) (a := sa) hown' hstr'.1 hstr'.2
    (g := { method := m, pc := pc + 4, locals := ls, stack := .ref T.heap.size :: .ref T.heap.size :: rest, locked := none }) rfl d4' _ hsteps
end Ends
section Bodies
variable {l : Launch}
theorem vx_ofW {y : MethodName} {ws ws' : List Cond} {rm : Room} {Pc : Array Value → State → Prop} {Qc : Array Value → State → Outcome → State → Prop} {XC : String → State → State → Prop} {mc ms : Nat} {free : Addr → Prop} {cc : ByteArray} {maxL : Nat} {ret : Option FieldType}
    (hy : plainName y.cls = true) (hw : ws = Cond.code y cc maxL ret :: ws')
    (body : ∀ p e s m args below meth c s₁, BodyLoose p l y (headSpec ws rm) cc maxL ret e s m args below meth c s₁ → c.maxLocals = maxL → (∀ x ∈ c.exceptionTable.toList, False) → Pc args s →
      W p l e (headSpec ws rm).room s m args below meth c s.heap [] 0 0 (vx_MQ below Qc XC args s mc ms free) (entryFrame m args maxL)) : vx_Met l y ws rm Pc Qc XC mc ms free := by
  refine MetFree.of_bodyS (code := cc) (maxLocals := maxL) (ret := ret) hy ?_ ?_
  · intro args s m h hn
    obtain ⟨meth, c, h1, h2, h3, h4, h5, h6, -, -⟩ := Cond.code_spec hn (atoms_spec (ws := ws) h _ (by rw [hw]; exact List.mem_cons_self))
    exact ⟨meth, c, h1, h2, h3, h4, h5, h6⟩
  · intro p e s m args below meth c s₁ B hml hP _
    have hh0 : s₁.heap = s.heap := by rw [B.state]; rfl
    have ht : ∀ x ∈ c.exceptionTable.toList, False := by
      obtain ⟨meth9, c9, h1, h2, -, -, -, -, h7, -⟩ := Cond.code_spec B.named (atoms_spec (ws := ws) B.pre _ (by rw [hw]; exact List.mem_cons_self))
      cases Option.some.inj (h1.symm.trans B.method)
      cases Option.some.inj (h2.symm.trans (Stand.of_body B).code)
      intro x hx
      rw [Array.isEmpty_iff.mp h7] at hx
      cases hx
    obtain ⟨t, a1, o, b1, b2, b3⟩ := body p e s m args below meth c s₁ B hml ht hP s₁ hh0 (Stand.of_body B)
    exact ⟨t, o, a1, b1, b2, b3⟩
/-- the table of a body with handlers -/
theorem vx_table {p : Program} {x y : MethodName} {S : Spec} {cc bytes : ByteArray} {maxL maxL' : Nat} {ret ret' : Option FieldType} {e : Env} {s s₁ : State} {m : MethodId} {args : Array Value} {below : List Frame} {meth : Method} {c : Code} {hh : List (Nat × Nat × Nat × Nat)}
    (B : BodyLoose p l y S cc maxL ret e s m args below meth c s₁) (h : (Cond.codeWith y bytes maxL' ret' hh).before args s = true) : c.exceptionTable.toList = tableOf hh := by
  obtain ⟨m9, meth9, c9, hn9, h1, h2, -, -, h6, -⟩ := Cond.codeWith_spec h
  cases Option.some.inj (hn9.symm.trans B.named)
  cases Option.some.inj (h1.symm.trans B.method)
  cases Option.some.inj (h2.symm.trans (Stand.of_body B).code)
  rw [← h6, table_eq]
end Bodies
end VXA
/-! ===== END ===== -/
/-! ===== BEGIN a static call of a method with an exception table ===== -/
section VXS
variable {p : Program} {l : Launch} {e : Env} {R : Room} {s : State} {m : MethodId} {args : Array Value} {below : List Frame} {meth : Method} {c : Code} {T : State} {H : Heap} {locs : List Loc} {cells slots : Nat}
abbrev vx_CSW (R : Room) (s : State) (args : Array Value) (own : String) (index : Nat) (y : MethodName) (bytes : ByteArray) (maxL : Nat) (ret : Option FieldType) (hh : List (Nat × Nat × Nat × Nat)) (ws : List Cond) (rm : Room) (mc ms n : Nat) : Prop :=
  (rm.cells = mc ∧ rm.slots = ms ∧ rm.frames + 1 ≤ R.frames ∧ 8 + (maxL + 11) + rm.locals ≤ R.locals ∧ (∀ w ∈ ws, ∀ (a' : Array Value) (U : State), s.WarmedH U.vm → w.before a' U = true) ∧ Cond.codeWith y bytes maxL ret hh ∈ ws) ∧
  (Cond.codeWith y bytes maxL ret hh).before args s = true ∧ (Cond.initialized y.cls).before args s = true ∧ (y.cls ≠ "java/lang/invoke/MethodHandle" ∧ y.cls ≠ "java/lang/invoke/VarHandle") ∧
  (∀ sig, parseMethodDescriptor y.desc = some sig → n = sig.parameters.length) ∧ (Cond.methodLink own index y).before args s = true ∧ (Cond.static y).before args s = true
theorem vx_cwSW {own : String} {index maxL mc ms : Nat} {y : MethodName} {bytes : ByteArray} {ret : Option FieldType} {hh : List (Nat × Nat × Nat × Nat)} {Ts ws ws' : List Cond} {rm : Room} (n : Nat) (ht : ∀ w ∈ Ts, w.before args s = true) (hT : GoodIn Ts (va_wsS own index y ws)) (hw : ws = Cond.codeWith y bytes maxL ret hh :: ws') (hrc : rm.cells = mc) (hrs : rm.slots = ms)
    (hd : y.cls ≠ "java/lang/invoke/MethodHandle" ∧ y.cls ≠ "java/lang/invoke/VarHandle" ∧ (parseMethodDescriptor y.desc).map (fun d => d.parameters.length) = some n) (hR : rm.frames + 1 ≤ R.frames ∧ 8 + (maxL + 11) + rm.locals ≤ R.locals) :
    vx_CSW R s args own index y bytes maxL ret hh ws rm mc ms n := by
  have ok : ∀ w ∈ va_wsS own index y ws, w.before args s = true := fun w h => ht w (hT w h).1
  have hG : GoodIn Ts ws := fun w h => hT w (by unfold va_wsS; exact List.mem_append_right _ h)
  have hc : Cond.codeWith y bytes maxL ret hh ∈ ws := by rw [hw]; exact List.mem_cons_self
  refine ⟨⟨hrc, hrs, hR.1, hR.2, pay_in ht hG, hc⟩, ht _ (hG _ hc).1, ok _ (by simp [va_wsS]), ⟨hd.1, hd.2.1⟩, fun sig h => ?_, ok _ (by simp [va_wsS]), ok _ (by simp [va_wsS])⟩
  have h2 := hd.2.2
  rw [h] at h2
  exact (Option.some.inj h2).symm
theorem vx_callSW (X : Stand p l e R s m args below meth c T locs cells slots) (hexec : p.tables.exec = Jvm.exec) {own : String} {index : Nat} {y : MethodName} {bytes : ByteArray} {maxL : Nat} {ret : Option FieldType} {hh : List (Nat × Nat × Nat × Nat)}
    (hown : s.vm.findClass own = some m.cls) (hlink : (Cond.methodLink own index y).before args s = true) (hstat : (Cond.static y).before args s = true) (hinit : (Cond.initialized y.cls).before args s = true)
    (hcode : (Cond.codeWith y bytes maxL ret hh).before args s = true) (hy : y.cls ≠ "java/lang/invoke/MethodHandle" ∧ y.cls ≠ "java/lang/invoke/VarHandle")
    {W9 : Nat} {Pre : Pt → Array Value → Prop} {Post : Pt → Array Value → Option Value → Pt → Prop} (hK : Back l R p e below s args y 3 W9 Pre Post)
    {g : JFrame} (hg : g.method = m) (hsize : g.locals.size = c.maxLocals) {argsL rest : List Value} (hlen : ∀ sig, parseMethodDescriptor y.desc = some sig → argsL.length = sig.parameters.length)
    (hstack : g.stack = argsL.reverse ++ rest) (hW : 2 * g.monitorRoom + (rest.map fun v => v.category).sum ≤ W9) (hdg : decode c.code g.pc = .ok (.invokestatic index, 3))
    (hpre : ∀ vm₁, s.WarmedH vm₁ → Pre ⟨T.setVm vm₁, locs, cells, slots⟩ argsL.toArray) :
    ∃ (v : Option Value) (vm₁ : Vm) (B : Pt), s.WarmedH vm₁ ∧ Stand p l e R s m args below meth c B.U B.locs B.cells B.slots ∧ Post ⟨T.setVm vm₁, locs, cells, slots⟩ argsL.toArray v B ∧
      ∀ target, Steps p.tables e below (B.U.setTop { g with pc := g.pc + 3, stack := v.toList ++ rest }) target → Steps p.tables e below (T.setTop g) target := by
  obtain ⟨mk, methM, cM, hnamed, hmethM, -, -, -, -, -, -, hsigM⟩ := Cond.codeWith_spec hcode
  have hstatic : methM.isStatic = true := Cond.static_spec hnamed hmethM hstat
  obtain ⟨kP, hkP, -⟩ := className_of_methodNamed hnamed
  have hinitP : kP.init = .initialized := Cond.initialized_spec (findClass_of_methodNamed hnamed) hkP hinit
  obtain ⟨vm₁, X₁, hstep₁⟩ := X.invokestatic hexec hown hlink hnamed hmethM hstatic hkP hinitP hy (g := g) hg (argsL := argsL) (rest := rest) (hlen _ hsigM) hstack hdg
  obtain ⟨v, B, X', hpost, hsteps⟩ := hK m meth c ⟨T.setVm vm₁, locs, cells, slots⟩ { g with stack := rest } (.invokestatic index) mk argsL.toArray X₁ hg hsize hdg hW (X₁.named hnamed) (hpre vm₁ X₁.warmed)
  exact ⟨v, vm₁, B, X₁.warmed, X', hpost, fun target h => hstep₁ _ fun acts => by rw [doInvoke_state]; exact hsteps.trans h⟩
theorem vx_runSW {y : MethodName} {bytes cc : ByteArray} {maxL nL mc ms n index : Nat} {ret : Option FieldType} {hh : List (Nat × Nat × Nat × Nat)} {ws : List Cond} {rm : Room} {Pc : Array Value → State → Prop} {Qc : Array Value → State → Outcome → State → Prop} {free : Addr → Prop} {Ts : List Cond} {own : String} {As rest : List Value} {g : JFrame}
    (S : CallFix p m c cc nL s args Ts own) (hM : Met l y ws rm Pc Qc mc ms free) (cw : vx_CSW R s args own index y bytes maxL ret hh ws rm mc ms n) (hp : PreS s H Pc As)
    (hg : g.method = m) (hn : As.length = n) (hsize : g.locals.size = nL) (hstack : g.stack = As.reverse ++ rest) (hW : 2 * g.monitorRoom + (rest.map fun v => v.category).sum ≤ 8) (hdg : decode cc g.pc = .ok (.invokestatic index, 3)) (hf : cells + mc ≤ R.cells ∧ slots + ms ≤ R.slots) :
    va_Run p l e R s m args below meth c H locs cells slots mc ms g rest (Qc As.toArray) (free) := by
  obtain ⟨⟨hrc, hrs, hfr, hlo, hws, hcw⟩, hcode, hini, hy, hlen, hl, hstt⟩ := cw
  have hK : Back l R p e below s args y 3 8 (PreOf R mc ms Pc) (PostOf Qc mc ms free) := va_backW (hh := hh) (bytes := bytes) (maxL := maxL) (ret := ret) hM hp.1 hrc hrs hfr hlo hws hcw (fun a' U hW => word_at hW (Or.inl (by first | rfl | simp [Cond.onTables, Cond.keeps, Cond.steady])) hini)
  obtain ⟨hx, hb, hml, ho, -⟩ := S
  intro T hT X
  obtain ⟨v, vm₁, ⟨U', l2, c2, s2⟩, hW₁, X', ⟨g', mk, t, L, e1, e2, hq, h1, hL, h2, h3⟩, st⟩ := vx_callSW X hx (hh := hh) (bytes := bytes) (maxL := maxL) (ret := ret) ho hl hstt hini hcode hy hK hg (hsize.trans hml.symm) (argsL := As) (rest := rest) (fun sig h => hn.trans (hlen sig h)) hstack hW (by rw [hb]; exact hdg)
    (fun vm₁ hW₁ => ⟨hf.1, hf.2, hp.2 (T.setVm vm₁) hT hW₁⟩)
  dsimp only [Pt.U, Pt.locs, Pt.cells, Pt.slots] at X' e1 e2 h1 h2 h3 st
  subst h1; subst h2; subst h3
  exact ⟨v, (T.setVm vm₁).calling g' mk As.toArray, t, U', L, hT, X', hL, e1, e2, hq, st⟩
/-- not caught here, past rows that name other classes: it goes on to the caller -/
theorem vx_outP {p : Program} {l : Launch} {e : Env} {R : Room} {s : State} {m : MethodId} {args : Array Value} {below : List Frame} {meth : Method} {c : Code} {H : Heap} {locs : List Loc} {cells slots : Nat} {free : Addr → Prop} {ls : Array Slot} {rest : List Value} {Qc : Array Value → State → Outcome → State → Prop} {XC : String → State → State → Prop}
    {pc : Nat} {own E : String} {ce : Cell} {q : Addr} {mc ms : Nat} (hown : s.vm.findClass own = some m.cls) (hlocks : meth.locks = false)
    (hpass : ∀ z ∈ c.exceptionTable.toList, covers z pc = false ∨ (z.catchType ≠ 0 ∧ ∃ nm : String, (Cond.classLink own z.catchType nm).before args s = true ∧ va_Nc E nm s)) (hcell : H[q]? = some ce) (hv : ce.vm = .none) (hcl : s.vm.findClass E = some ce.cls)
    (hx : ∀ t : State, t.heap = H → s.vm.Alike t.vm → XC E s t) (hf : ∀ z ∈ locs, free z.base) (hc : cells ≤ mc) (hs : slots ≤ ms) :
    vx_W p l e R s m args below meth c H locs cells slots (vx_MQ below Qc XC args s mc ms free) (F0 m pc ls rest) q := by
  intro T hT X
  have hpl : e.platform.magicAccessors = ({} : Platform).magicAccessors := by rw [X.admits.platform]
  obtain ⟨vm', hW', X', st⟩ := X.outThrough hlocks q (g := F0 m pc ls rest) rfl rfl rfl (cell := ce) (by rw [hT]; exact hcell) (by rw [hv]; rfl)
    (by obtain ⟨k9, h9, -⟩ := Vm.findClass_spec hcl; exact ⟨k9, h9⟩) (fun z hz => by
      rcases hpass z hz with h | ⟨hz0, nm, hl1, hn1⟩
      · exact Or.inl h
      · obtain ⟨c6, hc6, hcl6⟩ := Cond.classLink_spec hown hl1 e.platform hpl
        obtain ⟨a8, b8, h1, h2, h3⟩ := hn1
        cases Option.some.inj (h1.symm.trans hcl)
        cases Option.some.inj (h2.symm.trans hc6)
        exact Or.inr ⟨hz0, _, hcl6, h3⟩)
  obtain ⟨g₀, hfr⟩ := X'.frames_eq
  have hcell9 : ((T.setVm vm').setFrames (.throwing q :: below)).heap[q]? = some ce := by
    show T.heap[q]? = some ce
    rw [hT]; exact hcell
  have hend : Ended ((T.setVm vm').setFrames (.throwing q :: below)) below (.threw q) := State.frames_setFrames _ (State.cur_lt_of_frames hfr)
  refine ⟨(T.setVm vm').setFrames (.throwing q :: below), ?_, .threw q, X'.here.running, hend, Or.inr ⟨q, rfl, E, ce, locs, hx _ hT (X'.ends _).1.alike, hcell9, hv, hcl, (X'.ends _).1, (X'.ends _).2.mono hc hs, hf⟩⟩
  rw [X.pushThrowing_eq]
  exact st
/-- a thing of a world lies in the heap -/
theorem vx_lt {D : va_G} {cl : List vw_C} {ws : va_W} {H1 : Heap} (h : va_P D cl ws H1) {k : Nat} {q : Nat × va_E} (hk : ws[k]? = some q) : q.1 < H1.size := (h k q hk).lt
end VXS
/-! ===== END ===== -/
/-! ===== BEGIN methods with a table of their own: called by a name, returning or throwing ===== -/
section VXH
/-! vx_backW, vx_callVX, vx_callSX, vx_callVW, vx_runVW, vx_runVX, vx_runSX, vx_ofWH follow the same proofs as their sisters above (Free/Laws.lean, Shelf42/LK1.lean); vx_outP calls Shelf42/NT130.lean (outThrough). -/
section
variable {l : Launch} {R : Room} {p : Program} {e : Env} {below : List Frame} {s : State} {sargs : Array Value} {y : MethodName} {len W9 : Nat}
theorem vx_backW {ws : List Cond} {rm : Room} {Pc : Array Value → State → Prop} {Qc : Array Value → State → Outcome → State → Prop} {XC : String → State → State → Prop} {mc ms : Nat} {free : Addr → Prop} {bytes : ByteArray} {maxL : Nat} {ret : Option FieldType} {hh : List (Nat × Nat × Nat × Nat)}
    (hM : vx_Met l y ws rm Pc Qc XC mc ms free) (hblind : FrameBlind Pc) (hrc : rm.cells = mc) (hrs : rm.slots = ms)
    (hframes : rm.frames + 1 ≤ R.frames) (hlocals : W9 + (maxL + 11) + rm.locals ≤ R.locals)
    (hws : ∀ w ∈ ws, ∀ a' U, s.WarmedH U.vm → w.before a' U = true) (hcode : Cond.codeWith y bytes maxL ret hh ∈ ws) (hinit : ∀ a' U, s.WarmedH U.vm → (Cond.initialized y.cls).before a' U = true) :
    vx_Back l R p e below s sargs y len W9 (PreOf R mc ms Pc) (PostOf Qc mc ms free) (vx_Post XC mc ms free) := by
  intro m meth c A g ig mk a X hg hsize hdg hW hn hp
  have h1 : (headSpec ws rm).pre.before a A.U = true := atoms_intro fun w hw => hws w hw _ _ X.warmed
  have h2 : (Cond.codeWith y bytes maxL ret hh).before a A.U = true := hws _ hcode _ _ X.warmed
  have h3 : (Cond.initialized y.cls).before a A.U = true := hinit _ _ X.warmed
  have h4 : A.cells + (headSpec ws rm).room.cells ≤ R.cells := by rw [show (headSpec ws rm).room.cells = mc from hrc]; exact hp.1
  have h5 : A.slots + (headSpec ws rm).room.slots ≤ R.slots := by rw [show (headSpec ws rm).room.slots = ms from hrs]; exact hp.2.1
  have hPc : Pc a (A.U.calling g mk a) := hblind _ _ _ _ hp.2.2
  obtain ⟨U, Ls, c0, s0⟩ := A
  dsimp only [Pt.U, Pt.locs, Pt.cells, Pt.slots] at h1 h2 h3 h4 h5 X hn hPc ⊢
  obtain ⟨m9, methY, cY, hn9, hmY, hcY, -, hlY, -⟩ := Cond.codeWith_spec h2
  cases Option.some.inj (hn9.symm.trans hn)
  obtain ⟨kY, hkY, -⟩ := className_of_methodNamed hn
  have hinitY : kY.init = .initialized := Cond.initialized_spec (findClass_of_methodNamed hn) hkY h3
  have h : At U g.method c below := by rw [hg]; exact X.here
  have hlocals9 : W9 + (maxL + 11) + (headSpec ws rm).room.locals ≤ R.locals := hlocals
  have happ : (headSpec ws rm).appliesLoose y e.platform (U.calling g mk a) = true :=
    Spec.appliesLoose_calling (g := g) h hdg hn hkY hinitY
      (X.room_calling (g := g) (R' := (headSpec ws rm).room) hsize hmY hcY hframes (by rw [hlY]; omega) h4 h5) h1
  obtain ⟨mid, hmid⟩ := h.above
  have hfr : (U.setTop g).frames = (.java g :: mid) ++ below := by rw [State.frames_setTop' g h.top, hmid]; rfl
  obtain ⟨o, s₂, hsteps, -, hend, hq⟩ := Steps.callFree hM p X.admits X.cas X.clock (acts := []) hfr happ hPc trivial
  have hq' : vx_Q Qc XC mc ms free a (U.calling g mk a) o s₂ := hq
  rw [State.frames_setTop' g h.top] at hend
  obtain ⟨g₀, hg0⟩ := Option.isSome_iff_exists.mp h.top
  obtain ⟨r, hr⟩ := State.topJava?_eq_some.mp hg0
  have hr' : (({ U with heap := s₂.heap, slotsUsed := s₂.slotsUsed } : State).setVm s₂.vm).frames = .java g₀ :: r := hr
  rcases hq' with ⟨hqc, L, hfe, hL⟩ | ⟨q, rfl, E, ce, L, hx, hce, hcv, hcl, hW₂, hsm, hL⟩
  · obtain ⟨⟨v, rfl⟩, hW₂, e2, q2, q3, q4, q5, q6⟩ := id hfe
    have e3 : s₂ = ({ (U.calling g mk a).setFrames s₂.frames with heap := s₂.heap, slotsUsed := s₂.slotsUsed } : State).setVm s₂.vm := by
      have : s₂ = ({ s₂ with vm := (U.calling g mk a).vm } : State).setVm s₂.vm := rfl
      rw [e2] at this
      exact this
    obtain ⟨c₂, i₂, len₂, hc₂, hd₂, hf₂⟩ := hend
    have hW' : U.WarmedH s₂.vm := hW₂
    have hcc : c₂ = c := by
      have h1 : s₂.code? g.method = U.code? g.method := by
        rw [State.code?_eq, State.code?_eq, hW'.alike.method?]
      exact Option.some.inj (hc₂.symm.trans (h1.trans h.code))
    subst hcc
    have hlen : len₂ = len := by rw [hdg] at hd₂; cases hd₂; rfl
    subst hlen
    have hs₂ : s₂ = (({ U with heap := s₂.heap, slotsUsed := s₂.slotsUsed } : State).setVm s₂.vm).setTop { g with pc := g.pc + len₂, stack := v.toList ++ g.stack } := by
      refine e3.trans ?_
      rw [hf₂, State.calling_eq h.top, State.setFrames_setFrames, State.setTop_of_frames _ hr', hr]
      rfl
    have hsame : U.sameButNew ({ U with heap := s₂.heap, slotsUsed := s₂.slotsUsed } : State) L mc ms := by
      refine ⟨?_, q2, q3, q4, q5, q6⟩
      obtain ⟨t, ht, -⟩ := State.frames_cons hr
      show ({ U with heap := s₂.heap, slotsUsed := s₂.slotsUsed } : State) = { U.setFrames U.frames with heap := s₂.heap, slotsUsed := s₂.slotsUsed }
      rw [State.setFrames_self ht]
    subst hg
    refine Or.inl ⟨v, ⟨(({ U with heap := s₂.heap, slotsUsed := s₂.slotsUsed } : State).setVm s₂.vm), Ls ++ L, c0 + mc, s0 + ms⟩,
      ⟨X.admits, X.cas, X.clock, X.frames, X.room, X.hears, X.method, X.code, (X.here.setHeapUsed s₂.heap s₂.slotsUsed).setVm hW'.alike, X.tail, State.WarmedH.trans X.warmed hW', X.limits, X.bytes, X.same.trans (hsame.setVm s.vm)⟩,
      ⟨g, mk, s₂, L, rfl, rfl, hqc, rfl, hL, rfl, rfl⟩, ?_⟩
    show Steps p.tables e below _ ((({ U with heap := s₂.heap, slotsUsed := s₂.slotsUsed } : State).setVm s₂.vm).setTop { g with pc := g.pc + len₂, stack := v.toList ++ g.stack })
    rw [← hs₂]
    exact hsteps
  · obtain ⟨e2, q2, q3, q4, q5, q6⟩ := id hsm
    have e3 : s₂ = ({ (U.calling g mk a).setFrames s₂.frames with heap := s₂.heap, slotsUsed := s₂.slotsUsed } : State).setVm s₂.vm := by
      have : s₂ = ({ s₂ with vm := (U.calling g mk a).vm } : State).setVm s₂.vm := rfl
      rw [e2] at this
      exact this
    have hf₂ : s₂.frames = .throwing q :: .java g :: U.frames.tail := hend
    have hW' : U.WarmedH s₂.vm := hW₂
    have hs₂ : s₂ = ((({ U with heap := s₂.heap, slotsUsed := s₂.slotsUsed } : State).setVm s₂.vm).setTop g).pushFrame (.throwing q) := by
      refine e3.trans ?_
      rw [hf₂, State.calling_eq h.top, State.setFrames_setFrames, State.pushFrame, State.frames_setTop _ hr', State.setTop_of_frames _ hr', State.setFrames_setFrames, hr]
      rfl
    have hsame : U.sameButNew ({ U with heap := s₂.heap, slotsUsed := s₂.slotsUsed } : State) L mc ms := by
      refine ⟨?_, q2, q3, q4, q5, q6⟩
      obtain ⟨t, ht, -⟩ := State.frames_cons hr
      show ({ U with heap := s₂.heap, slotsUsed := s₂.slotsUsed } : State) = { U.setFrames U.frames with heap := s₂.heap, slotsUsed := s₂.slotsUsed }
      rw [State.setFrames_self ht]
    subst hg
    refine Or.inr ⟨q, ⟨(({ U with heap := s₂.heap, slotsUsed := s₂.slotsUsed } : State).setVm s₂.vm), Ls ++ L, c0 + mc, s0 + ms⟩,
      ⟨X.admits, X.cas, X.clock, X.frames, X.room, X.hears, X.method, X.code, (X.here.setHeapUsed s₂.heap s₂.slotsUsed).setVm hW'.alike, X.tail, State.WarmedH.trans X.warmed hW', X.limits, X.bytes, X.same.trans (hsame.setVm s.vm)⟩,
      ⟨g, mk, s₂, L, E, ce, rfl, rfl, hx, hce, hcv, hcl, rfl, hL, rfl, rfl⟩, ?_⟩
    show Steps p.tables e below _ (((({ U with heap := s₂.heap, slotsUsed := s₂.slotsUsed } : State).setVm s₂.vm).setTop g).pushFrame (.throwing q))
    rw [← hs₂]
    exact hsteps
end
variable {p : Program} {l : Launch} {e : Env} {R : Room} {s : State} {m : MethodId} {args : Array Value} {below : List Frame} {meth : Method} {c : Code} {T : State} {H : Heap} {locs : List Loc} {cells slots : Nat}
theorem vx_callVX (X : Stand p l e R s m args below meth c T locs cells slots) (hexec : p.tables.exec = Jvm.exec) {own C : String} {index : Nat} {y : MethodName} {bytes : ByteArray} {maxL : Nat} {ret : Option FieldType} {hh : List (Nat × Nat × Nat × Nat)}
    (hown : s.vm.findClass own = some m.cls) (hlink : (Cond.methodLink own index y).before args s = true) (hinst : (Cond.instanceMethod y).before args s = true) (hsel : (Cond.selects C y y).before args s = true)
    (hcode : (Cond.codeWith y bytes maxL ret hh).before args s = true) (hy : y.cls ≠ "java/lang/invoke/MethodHandle" ∧ y.cls ≠ "java/lang/invoke/VarHandle")
    {W9 : Nat} {Pre : Pt → Array Value → Prop} {Post : Pt → Array Value → Option Value → Pt → Prop} {PostX : Pt → Array Value → Addr → Pt → Prop} (hK : vx_Back l R p e below s args y 3 W9 Pre Post PostX)
    {b : Addr} {cellB : Cell} (hcell : T.heap[b]? = some cellB) (hobj : cellB.vm.isStatics = false) (hcls : s.vm.findClass C = some cellB.cls)
    {g : JFrame} (hg : g.method = m) (hsize : g.locals.size = c.maxLocals) {argsL rest : List Value} (hlen : ∀ sig, parseMethodDescriptor y.desc = some sig → argsL.length = sig.parameters.length)
    (hstack : g.stack = argsL.reverse ++ .ref b :: rest) (hW : 2 * g.monitorRoom + (rest.map fun v => v.category).sum ≤ W9) (hdg : decode c.code g.pc = .ok (.invokevirtual index, 3))
    (hpre : ∀ vm₁, s.WarmedH vm₁ → Pre ⟨T.setVm vm₁, locs, cells, slots⟩ (Value.ref b :: argsL).toArray) :
    (∃ (v : Option Value) (vm₁ : Vm) (B : Pt), s.WarmedH vm₁ ∧ Stand p l e R s m args below meth c B.U B.locs B.cells B.slots ∧ Post ⟨T.setVm vm₁, locs, cells, slots⟩ (Value.ref b :: argsL).toArray v B ∧
      ∀ target, Steps p.tables e below (B.U.setTop { g with pc := g.pc + 3, stack := v.toList ++ rest }) target → Steps p.tables e below (T.setTop g) target) ∨
    (∃ (q : Addr) (vm₁ : Vm) (B : Pt), s.WarmedH vm₁ ∧ Stand p l e R s m args below meth c B.U B.locs B.cells B.slots ∧ PostX ⟨T.setVm vm₁, locs, cells, slots⟩ (Value.ref b :: argsL).toArray q B ∧
      Steps p.tables e below (T.setTop g) ((B.U.setTop { g with stack := rest }).pushFrame (.throwing q))) := by
  obtain ⟨mk, methM, hnamed, hmethM, hstM, habM⟩ := Cond.instanceMethod_spec hinst
  obtain ⟨m8, methM', cM, hn8, hmethM', -, -, -, -, -, -, hsigM⟩ := Cond.codeWith_spec hcode
  cases Option.some.inj (hn8.symm.trans hnamed)
  cases hmethM.symm.trans hmethM'
  obtain ⟨c2, r2, m2, q1, q2, q3, q4, kP, hkP, hkPi⟩ := Cond.selects_spec hsel
  cases hcls.symm.trans q1
  cases (State.methodFound?_of_named hnamed hy).symm.trans q2
  cases hnamed.symm.trans q3
  have hselP : selectMethod e.platform s.vm cellB.cls mk = .method mk := by rw [Launch.admits_selectMethod X.admits]; exact q4
  obtain ⟨vm₁, X₁, hstep₁⟩ := X.invokevirtual hexec hown hlink hnamed hmethM hstM hkP hkPi hy (a := b) (cell := cellB) hcell
    (fun z h => by rw [h] at hobj; cases hobj) hselP hmethM habM hkP hkPi (g := g) hg (argsL := argsL) (rest := rest) (hlen _ hsigM) hstack hdg
  rcases hK m meth c ⟨T.setVm vm₁, locs, cells, slots⟩ { g with stack := rest } (.invokevirtual index) mk (Value.ref b :: argsL).toArray X₁ hg hsize hdg hW (X₁.named hnamed) (hpre vm₁ X₁.warmed) with ⟨v, B, X', hpost, hsteps⟩ | ⟨q, B, X', hpost, hsteps⟩
  · exact Or.inl ⟨v, vm₁, B, X₁.warmed, X', hpost, fun target h => hstep₁ _ fun acts => by rw [doInvoke_state]; exact hsteps.trans h⟩
  · exact Or.inr ⟨q, vm₁, B, X₁.warmed, X', hpost, hstep₁ _ fun acts => by rw [doInvoke_state]; exact hsteps⟩
theorem vx_callSX (X : Stand p l e R s m args below meth c T locs cells slots) (hexec : p.tables.exec = Jvm.exec) {own : String} {index : Nat} {y : MethodName} {bytes : ByteArray} {maxL : Nat} {ret : Option FieldType} {hh : List (Nat × Nat × Nat × Nat)}
    (hown : s.vm.findClass own = some m.cls) (hlink : (Cond.methodLink own index y).before args s = true) (hstat : (Cond.static y).before args s = true) (hinit : (Cond.initialized y.cls).before args s = true)
    (hcode : (Cond.codeWith y bytes maxL ret hh).before args s = true) (hy : y.cls ≠ "java/lang/invoke/MethodHandle" ∧ y.cls ≠ "java/lang/invoke/VarHandle")
    {W9 : Nat} {Pre : Pt → Array Value → Prop} {Post : Pt → Array Value → Option Value → Pt → Prop} {PostX : Pt → Array Value → Addr → Pt → Prop} (hK : vx_Back l R p e below s args y 3 W9 Pre Post PostX)
    {g : JFrame} (hg : g.method = m) (hsize : g.locals.size = c.maxLocals) {argsL rest : List Value} (hlen : ∀ sig, parseMethodDescriptor y.desc = some sig → argsL.length = sig.parameters.length)
    (hstack : g.stack = argsL.reverse ++ rest) (hW : 2 * g.monitorRoom + (rest.map fun v => v.category).sum ≤ W9) (hdg : decode c.code g.pc = .ok (.invokestatic index, 3))
    (hpre : ∀ vm₁, s.WarmedH vm₁ → Pre ⟨T.setVm vm₁, locs, cells, slots⟩ argsL.toArray) :
    (∃ (v : Option Value) (vm₁ : Vm) (B : Pt), s.WarmedH vm₁ ∧ Stand p l e R s m args below meth c B.U B.locs B.cells B.slots ∧ Post ⟨T.setVm vm₁, locs, cells, slots⟩ argsL.toArray v B ∧
      ∀ target, Steps p.tables e below (B.U.setTop { g with pc := g.pc + 3, stack := v.toList ++ rest }) target → Steps p.tables e below (T.setTop g) target) ∨
    (∃ (q : Addr) (vm₁ : Vm) (B : Pt), s.WarmedH vm₁ ∧ Stand p l e R s m args below meth c B.U B.locs B.cells B.slots ∧ PostX ⟨T.setVm vm₁, locs, cells, slots⟩ argsL.toArray q B ∧
      Steps p.tables e below (T.setTop g) ((B.U.setTop { g with stack := rest }).pushFrame (.throwing q))) := by
  obtain ⟨mk, methM, cM, hnamed, hmethM, -, -, -, -, -, -, hsigM⟩ := Cond.codeWith_spec hcode
  have hstatic : methM.isStatic = true := Cond.static_spec hnamed hmethM hstat
  obtain ⟨kP, hkP, -⟩ := className_of_methodNamed hnamed
  have hinitP : kP.init = .initialized := Cond.initialized_spec (findClass_of_methodNamed hnamed) hkP hinit
  obtain ⟨vm₁, X₁, hstep₁⟩ := X.invokestatic hexec hown hlink hnamed hmethM hstatic hkP hinitP hy (g := g) hg (argsL := argsL) (rest := rest) (hlen _ hsigM) hstack hdg
  rcases hK m meth c ⟨T.setVm vm₁, locs, cells, slots⟩ { g with stack := rest } (.invokestatic index) mk argsL.toArray X₁ hg hsize hdg hW (X₁.named hnamed) (hpre vm₁ X₁.warmed) with ⟨v, B, X', hpost, hsteps⟩ | ⟨q, B, X', hpost, hsteps⟩
  · exact Or.inl ⟨v, vm₁, B, X₁.warmed, X', hpost, fun target h => hstep₁ _ fun acts => by rw [doInvoke_state]; exact hsteps.trans h⟩
  · exact Or.inr ⟨q, vm₁, B, X₁.warmed, X', hpost, hstep₁ _ fun acts => by rw [doInvoke_state]; exact hsteps⟩
theorem vx_callVW (X : Stand p l e R s m args below meth c T locs cells slots) (hexec : p.tables.exec = Jvm.exec) {own C : String} {index : Nat} {y : MethodName} {bytes : ByteArray} {maxL : Nat} {ret : Option FieldType} {hh : List (Nat × Nat × Nat × Nat)}
    (hown : s.vm.findClass own = some m.cls) (hlink : (Cond.methodLink own index y).before args s = true) (hinst : (Cond.instanceMethod y).before args s = true) (hsel : (Cond.selects C y y).before args s = true)
    (hcode : (Cond.codeWith y bytes maxL ret hh).before args s = true) (hy : y.cls ≠ "java/lang/invoke/MethodHandle" ∧ y.cls ≠ "java/lang/invoke/VarHandle")
    {W9 : Nat} {Pre : Pt → Array Value → Prop} {Post : Pt → Array Value → Option Value → Pt → Prop} (hK : Back l R p e below s args y 3 W9 Pre Post)
    {b : Addr} {cellB : Cell} (hcell : T.heap[b]? = some cellB) (hobj : cellB.vm.isStatics = false) (hcls : s.vm.findClass C = some cellB.cls)
    {g : JFrame} (hg : g.method = m) (hsize : g.locals.size = c.maxLocals) {argsL rest : List Value} (hlen : ∀ sig, parseMethodDescriptor y.desc = some sig → argsL.length = sig.parameters.length)
    (hstack : g.stack = argsL.reverse ++ .ref b :: rest) (hW : 2 * g.monitorRoom + (rest.map fun v => v.category).sum ≤ W9) (hdg : decode c.code g.pc = .ok (.invokevirtual index, 3))
    (hpre : ∀ vm₁, s.WarmedH vm₁ → Pre ⟨T.setVm vm₁, locs, cells, slots⟩ (Value.ref b :: argsL).toArray) :
    ∃ (v : Option Value) (vm₁ : Vm) (B : Pt), s.WarmedH vm₁ ∧ Stand p l e R s m args below meth c B.U B.locs B.cells B.slots ∧ Post ⟨T.setVm vm₁, locs, cells, slots⟩ (Value.ref b :: argsL).toArray v B ∧
      ∀ target, Steps p.tables e below (B.U.setTop { g with pc := g.pc + 3, stack := v.toList ++ rest }) target → Steps p.tables e below (T.setTop g) target := by
  obtain ⟨mk, methM, hnamed, hmethM, hstM, habM⟩ := Cond.instanceMethod_spec hinst
  obtain ⟨m8, methM', cM, hn8, hmethM', -, -, -, -, -, -, hsigM⟩ := Cond.codeWith_spec hcode
  cases Option.some.inj (hn8.symm.trans hnamed)
  cases hmethM.symm.trans hmethM'
  obtain ⟨c2, r2, m2, q1, q2, q3, q4, kP, hkP, hkPi⟩ := Cond.selects_spec hsel
  cases hcls.symm.trans q1
  cases (State.methodFound?_of_named hnamed hy).symm.trans q2
  cases hnamed.symm.trans q3
  have hselP : selectMethod e.platform s.vm cellB.cls mk = .method mk := by rw [Launch.admits_selectMethod X.admits]; exact q4
  obtain ⟨vm₁, X₁, hstep₁⟩ := X.invokevirtual hexec hown hlink hnamed hmethM hstM hkP hkPi hy (a := b) (cell := cellB) hcell
    (fun z h => by rw [h] at hobj; cases hobj) hselP hmethM habM hkP hkPi (g := g) hg (argsL := argsL) (rest := rest) (hlen _ hsigM) hstack hdg
  obtain ⟨v, B, X', hpost, hsteps⟩ := hK m meth c ⟨T.setVm vm₁, locs, cells, slots⟩ { g with stack := rest } (.invokevirtual index) mk (Value.ref b :: argsL).toArray X₁ hg hsize hdg hW (X₁.named hnamed) (hpre vm₁ X₁.warmed)
  exact ⟨v, vm₁, B, X₁.warmed, X', hpost, fun target h => hstep₁ _ fun acts => by rw [doInvoke_state]; exact hsteps.trans h⟩
abbrev vx_CVW (R : Room) (s : State) (args : Array Value) (own C : String) (index : Nat) (y : MethodName) (bytes : ByteArray) (maxL : Nat) (ret : Option FieldType) (hh : List (Nat × Nat × Nat × Nat)) (ws : List Cond) (rm : Room) (mc ms n : Nat) : Prop :=
  (rm.cells = mc ∧ rm.slots = ms ∧ rm.frames + 1 ≤ R.frames ∧ 8 + (maxL + 11) + rm.locals ≤ R.locals ∧ (∀ w ∈ ws, ∀ (a' : Array Value) (U : State), s.WarmedH U.vm → w.before a' U = true) ∧ Cond.codeWith y bytes maxL ret hh ∈ ws) ∧
  (Cond.codeWith y bytes maxL ret hh).before args s = true ∧ (Cond.initialized y.cls).before args s = true ∧ (y.cls ≠ "java/lang/invoke/MethodHandle" ∧ y.cls ≠ "java/lang/invoke/VarHandle") ∧
  (∀ sig, parseMethodDescriptor y.desc = some sig → n = sig.parameters.length) ∧ (Cond.methodLink own index y).before args s = true ∧ (Cond.instanceMethod y).before args s = true ∧ (Cond.selects C y y).before args s = true
theorem vx_cwVW {own C : String} {index maxL mc ms : Nat} {y : MethodName} {bytes : ByteArray} {ret : Option FieldType} {hh : List (Nat × Nat × Nat × Nat)} {Ts ws ws' : List Cond} {rm : Room} (n : Nat) (ht : ∀ w ∈ Ts, w.before args s = true) (hT : GoodIn Ts (wsV own index C y ws)) (hw : ws = Cond.codeWith y bytes maxL ret hh :: ws') (hrc : rm.cells = mc) (hrs : rm.slots = ms)
    (hd : y.cls = C ∧ y.cls ≠ "java/lang/invoke/MethodHandle" ∧ y.cls ≠ "java/lang/invoke/VarHandle" ∧ (parseMethodDescriptor y.desc).map (fun d => d.parameters.length) = some n) (hR : rm.frames + 1 ≤ R.frames ∧ 8 + (maxL + 11) + rm.locals ≤ R.locals) :
    vx_CVW R s args own C index y bytes maxL ret hh ws rm mc ms n := by
  obtain ⟨hC, hd⟩ := hd
  subst hC
  have ok : ∀ w ∈ wsV own index y.cls y ws, w.before args s = true := fun w h => ht w (hT w h).1
  have hG : GoodIn Ts ws := fun w h => hT w (by unfold wsV; exact List.mem_append_right _ h)
  have hc : Cond.codeWith y bytes maxL ret hh ∈ ws := by rw [hw]; exact List.mem_cons_self
  refine ⟨⟨hrc, hrs, hR.1, hR.2, pay_in ht hG, hc⟩, ht _ (hG _ hc).1, ok _ (by simp [wsV]), ⟨hd.1, hd.2.1⟩, fun sig h => ?_, ok _ (by simp [wsV]), ok _ (by simp [wsV]), ok _ (by simp [wsV])⟩
  have h2 := hd.2.2
  rw [h] at h2
  exact (Option.some.inj h2).symm
theorem vx_runVW {y : MethodName} {bytes cc : ByteArray} {maxL nL mc ms n index : Nat} {ret : Option FieldType} {hh : List (Nat × Nat × Nat × Nat)} {ws : List Cond} {rm : Room} {Pc : Array Value → State → Prop} {Qc : Array Value → State → Outcome → State → Prop} {free : Addr → Prop} {Ts : List Cond} {own C : String} {b : Addr} {As rest : List Value} {g : JFrame}
    (S : CallFix p m c cc nL s args Ts own) (hM : Met l y ws rm Pc Qc mc ms free) (cw : vx_CVW R s args own C index y bytes maxL ret hh ws rm mc ms n) (hp : PreV s H C b Pc As)
    (hg : g.method = m) (hn : As.length = n) (hsize : g.locals.size = nL) (hstack : g.stack = As.reverse ++ .ref b :: rest) (hW : 2 * g.monitorRoom + (rest.map fun v => v.category).sum ≤ 8) (hdg : decode cc g.pc = .ok (.invokevirtual index, 3)) (hf : cells + mc ≤ R.cells ∧ slots + ms ≤ R.slots) :
    va_Run p l e R s m args below meth c H locs cells slots mc ms g rest (Qc (Value.ref b :: As).toArray) free := by
  obtain ⟨⟨hrc, hrs, hfr, hlo, hws, hcw⟩, hcode, hini, hy, hlen, hl, hin, hse⟩ := cw
  have hK : Back l R p e below s args y 3 8 (PreOf R mc ms Pc) (PostOf Qc mc ms free) := va_backW (hh := hh) (bytes := bytes) (maxL := maxL) (ret := ret) hM hp.1 hrc hrs hfr hlo hws hcw (fun a' U hW => word_at hW (Or.inl (by first | rfl | simp [Cond.onTables, Cond.keeps, Cond.steady])) hini)
  obtain ⟨hx, hb, hml, ho, -⟩ := S
  obtain ⟨-, ⟨cellB, hcB, hoB, hclB⟩, hPc⟩ := hp
  intro T hT X
  obtain ⟨v, vm₁, ⟨U', l2, c2, s2⟩, hW₁, X', ⟨g', mk, t, L, e1, e2, hq, h1, hL, h2, h3⟩, st⟩ := vx_callVW X hx (C := C) (hh := hh) (bytes := bytes) (maxL := maxL) (ret := ret) ho hl hin hse hcode hy hK (by rw [hT]; exact hcB) hoB hclB hg (hsize.trans hml.symm) (argsL := As) (rest := rest) (fun sig h => hn.trans (hlen sig h)) hstack hW (by rw [hb]; exact hdg)
    (fun vm₁ hW₁ => ⟨hf.1, hf.2, hPc (T.setVm vm₁) hT hW₁⟩)
  dsimp only [Pt.U, Pt.locs, Pt.cells, Pt.slots] at X' e1 e2 h1 h2 h3 st
  subst h1; subst h2; subst h3
  exact ⟨v, (T.setVm vm₁).calling g' mk (Value.ref b :: As).toArray, t, U', L, hT, X', hL, e1, e2, hq, st⟩
section
variable {y : MethodName} {bytes cc : ByteArray} {maxL nL mc ms n index : Nat} {ret : Option FieldType} {ws : List Cond} {rm : Room} {Pc : Array Value → State → Prop} {Qc : Array Value → State → Outcome → State → Prop} {XC : String → State → State → Prop} {free : Addr → Prop} {Ts : List Cond} {own C : String} {b : Addr} {As rest : List Value} {g : JFrame}
theorem vx_runVX {hh : List (Nat × Nat × Nat × Nat)} (S : CallFix p m c cc nL s args Ts own) (hM : vx_Met l y ws rm Pc Qc XC mc ms free) (cw : vx_CVW R s args own C index y bytes maxL ret hh ws rm mc ms n) (hp : PreV s H C b Pc As)
    (hg : g.method = m) (hn : As.length = n) (hsize : g.locals.size = nL) (hstack : g.stack = As.reverse ++ .ref b :: rest) (hW : 2 * g.monitorRoom + (rest.map fun v => v.category).sum ≤ 8) (hdg : decode cc g.pc = .ok (.invokevirtual index, 3)) (hf : cells + mc ≤ R.cells ∧ slots + ms ≤ R.slots) :
    vx_Run p l e R s m args below meth c H locs cells slots mc ms g rest (Qc (Value.ref b :: As).toArray) XC free := by
  obtain ⟨⟨hrc, hrs, hfr, hlo, hws, hcw⟩, hcode, hini, hy, hlen, hl, hin, hse⟩ := cw
  have hK : vx_Back l R p e below s args y 3 8 (PreOf R mc ms Pc) (PostOf Qc mc ms free) (vx_Post XC mc ms free) := vx_backW (hh := hh) (bytes := bytes) (maxL := maxL) (ret := ret) hM hp.1 hrc hrs hfr hlo hws hcw (fun a' U hW => word_at hW (Or.inl (by first | rfl | simp [Cond.onTables, Cond.keeps, Cond.steady])) hini)
  obtain ⟨hx, hb, hml, ho, -⟩ := S
  obtain ⟨-, ⟨cellB, hcB, hoB, hclB⟩, hPc⟩ := hp
  intro T hT X
  rcases vx_callVX X hx (C := C) (hh := hh) (bytes := bytes) (maxL := maxL) (ret := ret) ho hl hin hse hcode hy hK (by rw [hT]; exact hcB) hoB hclB hg (hsize.trans hml.symm) (argsL := As) (rest := rest) (fun sig h => hn.trans (hlen sig h)) hstack hW (by rw [hb]; exact hdg)
    (fun vm₁ hW₁ => ⟨hf.1, hf.2, hPc (T.setVm vm₁) hT hW₁⟩) with ⟨v, vm₁, ⟨U', l2, c2, s2⟩, hW₁, X', ⟨g', mk, t, L, e1, e2, hq, h1, hL, h2, h3⟩, st⟩ | ⟨q, vm₁, ⟨U', l2, c2, s2⟩, hW₁, X', ⟨g', mk, t, L, E, ce, e1, e2, hq, hce, hcv, hcl, h1, hL, h2, h3⟩, st⟩
  · dsimp only [Pt.U, Pt.locs, Pt.cells, Pt.slots] at X' e1 e2 h1 h2 h3 st
    subst h1; subst h2; subst h3
    exact Or.inl ⟨v, (T.setVm vm₁).calling g' mk (Value.ref b :: As).toArray, t, U', L, hT, X', hL, e1, e2, hq, st⟩
  · dsimp only [Pt.U, Pt.locs, Pt.cells, Pt.slots] at X' e1 e2 h1 h2 h3 st hcl
    subst h1; subst h2; subst h3
    exact Or.inr ⟨q, (T.setVm vm₁).calling g' mk (Value.ref b :: As).toArray, t, U', L, E, ce, hT, X', hL, e1, e2, hq, hce, hcv, vx_cls hW₁ hcl, st⟩
theorem vx_runSX {hh : List (Nat × Nat × Nat × Nat)} (S : CallFix p m c cc nL s args Ts own) (hM : vx_Met l y ws rm Pc Qc XC mc ms free) (cw : vx_CSW R s args own index y bytes maxL ret hh ws rm mc ms n) (hp : PreS s H Pc As)
    (hg : g.method = m) (hn : As.length = n) (hsize : g.locals.size = nL) (hstack : g.stack = As.reverse ++ rest) (hW : 2 * g.monitorRoom + (rest.map fun v => v.category).sum ≤ 8) (hdg : decode cc g.pc = .ok (.invokestatic index, 3)) (hf : cells + mc ≤ R.cells ∧ slots + ms ≤ R.slots) :
    vx_Run p l e R s m args below meth c H locs cells slots mc ms g rest (Qc As.toArray) XC free := by
  obtain ⟨⟨hrc, hrs, hfr, hlo, hws, hcw⟩, hcode, hini, hy, hlen, hl, hstt⟩ := cw
  have hK : vx_Back l R p e below s args y 3 8 (PreOf R mc ms Pc) (PostOf Qc mc ms free) (vx_Post XC mc ms free) := vx_backW (hh := hh) (bytes := bytes) (maxL := maxL) (ret := ret) hM hp.1 hrc hrs hfr hlo hws hcw (fun a' U hW => word_at hW (Or.inl (by first | rfl | simp [Cond.onTables, Cond.keeps, Cond.steady])) hini)
  obtain ⟨hx, hb, hml, ho, -⟩ := S
  intro T hT X
  rcases vx_callSX X hx (hh := hh) (bytes := bytes) (maxL := maxL) (ret := ret) ho hl hstt hini hcode hy hK hg (hsize.trans hml.symm) (argsL := As) (rest := rest) (fun sig h => hn.trans (hlen sig h)) hstack hW (by rw [hb]; exact hdg)
    (fun vm₁ hW₁ => ⟨hf.1, hf.2, hp.2 (T.setVm vm₁) hT hW₁⟩) with ⟨v, vm₁, ⟨U', l2, c2, s2⟩, hW₁, X', ⟨g', mk, t, L, e1, e2, hq, h1, hL, h2, h3⟩, st⟩ | ⟨q, vm₁, ⟨U', l2, c2, s2⟩, hW₁, X', ⟨g', mk, t, L, E, ce, e1, e2, hq, hce, hcv, hcl, h1, hL, h2, h3⟩, st⟩
  · dsimp only [Pt.U, Pt.locs, Pt.cells, Pt.slots] at X' e1 e2 h1 h2 h3 st
    subst h1; subst h2; subst h3
    exact Or.inl ⟨v, (T.setVm vm₁).calling g' mk As.toArray, t, U', L, hT, X', hL, e1, e2, hq, st⟩
  · dsimp only [Pt.U, Pt.locs, Pt.cells, Pt.slots] at X' e1 e2 h1 h2 h3 st hcl
    subst h1; subst h2; subst h3
    exact Or.inr ⟨q, (T.setVm vm₁).calling g' mk As.toArray, t, U', L, E, ce, hT, X', hL, e1, e2, hq, hce, hcv, vx_cls hW₁ hcl, st⟩
end
end VXH
theorem vx_ofWH {l : Launch} {y : MethodName} {ws ws' : List Cond} {rm : Room} {Pc : Array Value → State → Prop} {Qc : Array Value → State → Outcome → State → Prop} {XC : String → State → State → Prop} {mc ms : Nat} {free : Addr → Prop} {cc : ByteArray} {maxL : Nat} {ret : Option FieldType} {hh : List (Nat × Nat × Nat × Nat)}
    (hy : plainName y.cls = true) (hw : ws = Cond.codeWith y cc maxL ret hh :: ws')
    (body : ∀ p e s m args below meth c s₁, BodyLoose p l y (headSpec ws rm) cc maxL ret e s m args below meth c s₁ → c.maxLocals = maxL → Pc args s →
      W p l e (headSpec ws rm).room s m args below meth c s.heap [] 0 0 (vx_MQ below Qc XC args s mc ms free) (entryFrame m args maxL)) : vx_Met l y ws rm Pc Qc XC mc ms free := by
  refine MetFree.of_bodyS (code := cc) (maxLocals := maxL) (ret := ret) hy ?_ ?_
  · intro args s m h hn
    obtain ⟨m9, meth, c, hn9, h1, h2, h3, h4, -, h5, h6, -⟩ := Cond.codeWith_spec (atoms_spec (ws := ws) h _ (by rw [hw]; exact List.mem_cons_self))
    cases hn.symm.trans hn9
    exact ⟨meth, c, h1, h2, h3, h4, h5, h6⟩
  · intro p e s m args below meth c s₁ B hml hP _
    have hh0 : s₁.heap = s.heap := by rw [B.state]; rfl
    obtain ⟨t, a1, o, b1, b2, b3⟩ := body p e s m args below meth c s₁ B hml hP s₁ hh0 (Stand.of_body B)
    exact ⟨t, o, a1, b1, b2, b3⟩
/-! ===== END ===== -/

def RX0 : String := "PageMarriages$History"
def TX0 : u_T := fun k => match k with
  | 0 => ("PageMarriages$History", "ring", "[LPageMarriages$Memory;", true)
  | 1 => ("PageMarriages$History", "next", "I", false)
  | _ => ("PageMarriages$History", "size", "I", false)
def tyX0 : Nat → FieldType := fun k => match k with
  | 0 => .array (.object "PageMarriages$Memory")
  | 1 => .int
  | _ => .int
abbrev wsX00 : List Cond := u_ws RX0 TX0 3
theorem nmX0 : ∀ a, a < 3 → ∀ b, b < 3 → a ≠ b → (TX0 a).2.1 ≠ (TX0 b).2.1 := by decide +kernel
theorem tyX0_ok : ∀ k, k < 3 → parseFieldDescriptor (TX0 k).2.2.1 = some (tyX0 k) := by decide +kernel
abbrev cX0_init : ByteArray := prog_2_method_1_code
def yX0_init : MethodName := ⟨RX0, "<init>", "()V"⟩
abbrev cX0_remember : ByteArray := prog_2_method_4_code
def yX0_remember : MethodName := ⟨RX0, "remember", "(LPageMarriages$Memory;)V"⟩
def RX1 : String := "PageMarriages$Memory"
def TX1 : u_T := fun k => match k with
  | 0 => ("PageMarriages$Memory", "frames", "[I", true)
  | 1 => ("PageMarriages$Memory", "users", "[I", true)
  | 2 => ("PageMarriages$Memory", "values", "[I", true)
  | 3 => ("PageMarriages$Memory", "processes", "I", false)
  | 4 => ("PageMarriages$Memory", "bigs", "I", false)
  | 5 => ("PageMarriages$Memory", "eager", "Z", false)
  | 6 => ("PageMarriages$Memory", "copies", "I", false)
  | 7 => ("PageMarriages$Memory", "faults", "I", false)
  | 8 => ("PageMarriages$Memory", "tears", "I", false)
  | _ => ("PageMarriages$Memory", "losses", "I", false)
def tyX1 : Nat → FieldType := fun k => match k with
  | 0 => .array .int
  | 1 => .array .int
  | 2 => .array .int
  | 3 => .int
  | 4 => .int
  | 5 => .boolean
  | 6 => .int
  | 7 => .int
  | 8 => .int
  | _ => .int
abbrev wsX10 : List Cond := u_ws RX1 TX1 10
theorem nmX1 : ∀ a, a < 10 → ∀ b, b < 10 → a ≠ b → (TX1 a).2.1 ≠ (TX1 b).2.1 := by decide +kernel
theorem tyX1_ok : ∀ k, k < 10 → parseFieldDescriptor (TX1 k).2.2.1 = some (tyX1 k) := by decide +kernel
abbrev cX1_init : ByteArray := prog_3_method_1_code
def yX1_init : MethodName := ⟨RX1, "<init>", "()V"⟩
abbrev cX1_beginAnew : ByteArray := prog_3_method_2_code
def yX1_beginAnew : MethodName := ⟨RX1, "beginAnew", "()V"⟩
abbrev cX1_copyFrom : ByteArray := prog_3_method_3_code
def yX1_copyFrom : MethodName := ⟨RX1, "copyFrom", "(LPageMarriages$Memory;)V"⟩
abbrev cX1_hasProcess : ByteArray := prog_3_method_4_code
def yX1_hasProcess : MethodName := ⟨RX1, "hasProcess", "(I)Z"⟩
abbrev cX1_hasPage : ByteArray := prog_3_method_5_code
def yX1_hasPage : MethodName := ⟨RX1, "hasPage", "(II)Z"⟩
abbrev cX1_hasGroup : ByteArray := prog_3_method_6_code
def yX1_hasGroup : MethodName := ⟨RX1, "hasGroup", "(II)Z"⟩
abbrev cX1_processes : ByteArray := prog_3_method_7_code
def yX1_processes : MethodName := ⟨RX1, "processes", "()I"⟩
abbrev cX1_freeFrames : ByteArray := prog_3_method_8_code
def yX1_freeFrames : MethodName := ⟨RX1, "freeFrames", "()I"⟩
abbrev cX1_sharedFrames : ByteArray := prog_3_method_9_code
def yX1_sharedFrames : MethodName := ⟨RX1, "sharedFrames", "()I"⟩
abbrev cX1_freeRuns : ByteArray := prog_3_method_10_code
def yX1_freeRuns : MethodName := ⟨RX1, "freeRuns", "()I"⟩
abbrev cX1_bigGroups : ByteArray := prog_3_method_11_code
def yX1_bigGroups : MethodName := ⟨RX1, "bigGroups", "()I"⟩
abbrev cX1_widows : ByteArray := prog_3_method_12_code
def yX1_widows : MethodName := ⟨RX1, "widows", "()I"⟩
abbrev cX1_frameOf : ByteArray := prog_3_method_13_code
def yX1_frameOf : MethodName := ⟨RX1, "frameOf", "(II)I"⟩
abbrev cX1_valueOf : ByteArray := prog_3_method_14_code
def yX1_valueOf : MethodName := ⟨RX1, "valueOf", "(II)I"⟩
abbrev cX1_usersOfFrameOf : ByteArray := prog_3_method_15_code
def yX1_usersOfFrameOf : MethodName := ⟨RX1, "usersOfFrameOf", "(II)I"⟩
abbrev cX1_userAt : ByteArray := prog_3_method_16_code
def yX1_userAt : MethodName := ⟨RX1, "userAt", "(II)I"⟩
abbrev cX1_isBig : ByteArray := prog_3_method_17_code
def yX1_isBig : MethodName := ⟨RX1, "isBig", "(II)Z"⟩
abbrev cX1_runOf : ByteArray := prog_3_method_18_code
def yX1_runOf : MethodName := ⟨RX1, "runOf", "(II)I"⟩
abbrev cX1_isWidow : ByteArray := prog_3_method_19_code
def yX1_isWidow : MethodName := ⟨RX1, "isWidow", "(II)Z"⟩
abbrev cX1_bigGroupsInRun : ByteArray := prog_3_method_20_code
def yX1_bigGroupsInRun : MethodName := ⟨RX1, "bigGroupsInRun", "(I)I"⟩
abbrev cX1_pagesWithFrame : ByteArray := prog_3_method_21_code
def yX1_pagesWithFrame : MethodName := ⟨RX1, "pagesWithFrame", "(II)I"⟩
abbrev cX1_pagesWithSharedFrame : ByteArray := prog_3_method_22_code
def yX1_pagesWithSharedFrame : MethodName := ⟨RX1, "pagesWithSharedFrame", "(II)I"⟩
abbrev cX1_pagesWithValueZero : ByteArray := prog_3_method_23_code
def yX1_pagesWithValueZero : MethodName := ⟨RX1, "pagesWithValueZero", "(II)I"⟩
abbrev cX1_isShared : ByteArray := prog_3_method_24_code
def yX1_isShared : MethodName := ⟨RX1, "isShared", "(I)Z"⟩
abbrev cX1_isRunFree : ByteArray := prog_3_method_25_code
def yX1_isRunFree : MethodName := ⟨RX1, "isRunFree", "(I)Z"⟩
abbrev cX1_lowestFreeRun : ByteArray := prog_3_method_26_code
def yX1_lowestFreeRun : MethodName := ⟨RX1, "lowestFreeRun", "()I"⟩
abbrev cX1_lowestSingleFrame : ByteArray := prog_3_method_27_code
def yX1_lowestSingleFrame : MethodName := ⟨RX1, "lowestSingleFrame", "()I"⟩
abbrev cX1_takeFrame : ByteArray := prog_3_method_28_code
def yX1_takeFrame : MethodName := ⟨RX1, "takeFrame", "(III)V"⟩
abbrev cX1_letGo : ByteArray := prog_3_method_29_code
def yX1_letGo : MethodName := ⟨RX1, "letGo", "(II)I"⟩
abbrev cX1_becomeBig : ByteArray := prog_3_method_30_code
def yX1_becomeBig : MethodName := ⟨RX1, "becomeBig", "(II)V"⟩
abbrev cX1_becomeSmall : ByteArray := prog_3_method_31_code
def yX1_becomeSmall : MethodName := ⟨RX1, "becomeSmall", "(II)V"⟩
abbrev cX1_becomeTorn : ByteArray := prog_3_method_32_code
def yX1_becomeTorn : MethodName := ⟨RX1, "becomeTorn", "(II)V"⟩
abbrev cX1_outcomeOfWrite : ByteArray := prog_3_method_33_code
def yX1_outcomeOfWrite : MethodName := ⟨RX1, "outcomeOfWrite", "(II)I"⟩
abbrev cX1_doWrite : ByteArray := prog_3_method_34_code
def yX1_doWrite : MethodName := ⟨RX1, "doWrite", "(III)I"⟩
abbrev cX1_bringIn : ByteArray := prog_3_method_35_code
def yX1_bringIn : MethodName := ⟨RX1, "bringIn", "(II)V"⟩
abbrev cX1_bringInWhole : ByteArray := prog_3_method_36_code
def yX1_bringInWhole : MethodName := ⟨RX1, "bringInWhole", "(III)V"⟩
abbrev cX1_copyOut : ByteArray := prog_3_method_37_code
def yX1_copyOut : MethodName := ⟨RX1, "copyOut", "(II)V"⟩
abbrev cX1_takeSingleFrame : ByteArray := prog_3_method_38_code
def yX1_takeSingleFrame : MethodName := ⟨RX1, "takeSingleFrame", "(II)V"⟩
abbrev cX1_lowestUnusedProcess : ByteArray := prog_3_method_39_code
def yX1_lowestUnusedProcess : MethodName := ⟨RX1, "lowestUnusedProcess", "()I"⟩
abbrev cX1_canFork : ByteArray := prog_3_method_40_code
def yX1_canFork : MethodName := ⟨RX1, "canFork", "(I)Z"⟩
abbrev cX1_doFork : ByteArray := prog_3_method_41_code
def yX1_doFork : MethodName := ⟨RX1, "doFork", "(I)I"⟩
abbrev cX1_canExit : ByteArray := prog_3_method_42_code
def yX1_canExit : MethodName := ⟨RX1, "canExit", "(I)Z"⟩
abbrev cX1_doExit : ByteArray := prog_3_method_43_code
def yX1_doExit : MethodName := ⟨RX1, "doExit", "(I)I"⟩
abbrev cX1_obstacleToMarriage : ByteArray := prog_3_method_44_code
def yX1_obstacleToMarriage : MethodName := ⟨RX1, "obstacleToMarriage", "(II)I"⟩
abbrev cX1_isInPlace : ByteArray := prog_3_method_45_code
def yX1_isInPlace : MethodName := ⟨RX1, "isInPlace", "(II)Z"⟩
abbrev cX1_doMarry : ByteArray := prog_3_method_46_code
def yX1_doMarry : MethodName := ⟨RX1, "doMarry", "(II)I"⟩
abbrev cX1_moveTo : ByteArray := prog_3_method_47_code
def yX1_moveTo : MethodName := ⟨RX1, "moveTo", "(III)I"⟩
abbrev cX1_marryNext : ByteArray := prog_3_method_48_code
def yX1_marryNext : MethodName := ⟨RX1, "marryNext", "()Z"⟩
abbrev cX1_doTear : ByteArray := prog_3_method_49_code
def yX1_doTear : MethodName := ⟨RX1, "doTear", "(II)I"⟩
abbrev cX1_doPress : ByteArray := prog_3_method_50_code
def yX1_doPress : MethodName := ⟨RX1, "doPress", "(I)I"⟩
abbrev cX1_loseFirstPage : ByteArray := prog_3_method_51_code
def yX1_loseFirstPage : MethodName := ⟨RX1, "loseFirstPage", "()Z"⟩
abbrev cX1_tearEmptiestGroup : ByteArray := prog_3_method_52_code
def yX1_tearEmptiestGroup : MethodName := ⟨RX1, "tearEmptiestGroup", "()Z"⟩
def RX2 : String := "PageMarriages$Story"
def TX2 : u_T := fun k => match k with
  | 0 => ("PageMarriages$Story", "signs", "[C", true)
  | _ => ("PageMarriages$Story", "length", "I", false)
def tyX2 : Nat → FieldType := fun k => match k with
  | 0 => .array .char
  | _ => .int
abbrev wsX20 : List Cond := u_ws RX2 TX2 2
theorem nmX2 : ∀ a, a < 2 → ∀ b, b < 2 → a ≠ b → (TX2 a).2.1 ≠ (TX2 b).2.1 := by decide +kernel
theorem tyX2_ok : ∀ k, k < 2 → parseFieldDescriptor (TX2 k).2.2.1 = some (tyX2 k) := by decide +kernel
abbrev cX2_init : ByteArray := prog_4_method_1_code
def yX2_init : MethodName := ⟨RX2, "<init>", "()V"⟩
def RX3 : String := "PageMarriages"
def TX3 : u_T := fun k => match k with
  | 0 => ("PageMarriages", "story", "LPageMarriages$Story;", true)
  | 1 => ("PageMarriages", "present", "LPageMarriages$Memory;", true)
  | 2 => ("PageMarriages", "trial", "LPageMarriages$Memory;", true)
  | 3 => ("PageMarriages", "history", "LPageMarriages$History;", true)
  | 4 => ("PageMarriages", "slots", "[LPageMarriages$Memory;", true)
  | _ => ("PageMarriages", "filled", "[Z", true)
def tyX3 : Nat → FieldType := fun k => match k with
  | 0 => .object "PageMarriages$Story"
  | 1 => .object "PageMarriages$Memory"
  | 2 => .object "PageMarriages$Memory"
  | 3 => .object "PageMarriages$History"
  | 4 => .array (.object "PageMarriages$Memory")
  | _ => .array .boolean
abbrev wsX30 : List Cond := u_ws RX3 TX3 6
theorem nmX3 : ∀ a, a < 6 → ∀ b, b < 6 → a ≠ b → (TX3 a).2.1 ≠ (TX3 b).2.1 := by decide +kernel
theorem tyX3_ok : ∀ k, k < 6 → parseFieldDescriptor (TX3 k).2.2.1 = some (tyX3 k) := by decide +kernel
abbrev cX3_init : ByteArray := prog_1_method_1_code
def yX3_init : MethodName := ⟨RX3, "<init>", "()V"⟩
abbrev cX3_about : ByteArray := prog_1_method_6_code
def yX3_about : MethodName := ⟨RX3, "about", "(I)I"⟩
abbrev cX3_page : ByteArray := prog_1_method_7_code
def yX3_page : MethodName := ⟨RX3, "page", "(III)I"⟩
abbrev cX3_user : ByteArray := prog_1_method_8_code
def yX3_user : MethodName := ⟨RX3, "user", "(II)I"⟩
abbrev cX3_group : ByteArray := prog_1_method_9_code
def yX3_group : MethodName := ⟨RX3, "group", "(III)I"⟩
abbrev cX3_write : ByteArray := prog_1_method_10_code
def yX3_write : MethodName := ⟨RX3, "write", "(III)I"⟩
abbrev cX3_fork : ByteArray := prog_1_method_11_code
def yX3_fork : MethodName := ⟨RX3, "fork", "(I)I"⟩
abbrev cX3_exit : ByteArray := prog_1_method_12_code
def yX3_exit : MethodName := ⟨RX3, "exit", "(I)I"⟩
abbrev cX3_marry : ByteArray := prog_1_method_13_code
def yX3_marry : MethodName := ⟨RX3, "marry", "(II)I"⟩
abbrev cX3_tear : ByteArray := prog_1_method_14_code
def yX3_tear : MethodName := ⟨RX3, "tear", "(II)I"⟩
abbrev cX3_press : ByteArray := prog_1_method_15_code
def yX3_press : MethodName := ⟨RX3, "press", "(I)I"⟩
abbrev cX3_setEager : ByteArray := prog_1_method_16_code
def yX3_setEager : MethodName := ⟨RX3, "setEager", "(Z)I"⟩
abbrev cX3_whyNot : ByteArray := prog_1_method_18_code
def yX3_whyNot : MethodName := ⟨RX3, "whyNot", "(II)I"⟩
abbrev cX3_wouldDo : ByteArray := prog_1_method_19_code
def yX3_wouldDo : MethodName := ⟨RX3, "wouldDo", "(II)I"⟩
abbrev cX3_marriages : ByteArray := prog_1_method_20_code
def yX3_marriages : MethodName := ⟨RX3, "marriages", "()I"⟩
abbrev cX3_mostFree : ByteArray := prog_1_method_21_code
def yX3_mostFree : MethodName := ⟨RX3, "mostFree", "()I"⟩
abbrev cX3_writable : ByteArray := prog_1_method_22_code
def yX3_writable : MethodName := ⟨RX3, "writable", "(I)I"⟩
abbrev cX3_requireProcess : ByteArray := prog_1_method_27_code
def yX3_requireProcess : MethodName := ⟨RX3, "requireProcess", "(I)V"⟩
abbrev cX3_requirePage : ByteArray := prog_1_method_28_code
def yX3_requirePage : MethodName := ⟨RX3, "requirePage", "(II)V"⟩
abbrev cX3_requireGroup : ByteArray := prog_1_method_29_code
def yX3_requireGroup : MethodName := ⟨RX3, "requireGroup", "(II)V"⟩
def RX4 : String := "PageMarriagesModel"
def TX4 : u_T := fun k => match k with
  | _ => ("", "", "", false)
def tyX4 : Nat → FieldType := fun k => match k with
  | _ => .int
abbrev wsX40 : List Cond := u_ws RX4 TX4 0
theorem nmX4 : ∀ a, a < 0 → ∀ b, b < 0 → a ≠ b → (TX4 a).2.1 ≠ (TX4 b).2.1 := by decide +kernel
theorem tyX4_ok : ∀ k, k < 0 → parseFieldDescriptor (TX4 k).2.2.1 = some (tyX4 k) := by decide +kernel
def RJ6 : String := "java/lang/Integer"
def TJ6 : u_T := fun k => match k with
  | _ => ("", "", "", false)
def tyJ6 : Nat → FieldType := fun k => match k with
  | _ => .int
abbrev wsJ60 : List Cond := u_ws RJ6 TJ6 0
theorem nmJ6 : ∀ a, a < 0 → ∀ b, b < 0 → a ≠ b → (TJ6 a).2.1 ≠ (TJ6 b).2.1 := by decide +kernel
theorem tyJ6_ok : ∀ k, k < 0 → parseFieldDescriptor (TJ6 k).2.2.1 = some (tyJ6 k) := by decide +kernel
abbrev cJ6_bitCount_0f7a4 : ByteArray := prog_11_method_49_code
def yJ6_bitCount_0f7a4 : MethodName := ⟨RJ6, "bitCount", "(I)I"⟩
def RJ9 : String := "java/lang/Math"
def TJ9 : u_T := fun k => match k with
  | _ => ("", "", "", false)
def tyJ9 : Nat → FieldType := fun k => match k with
  | _ => .int
abbrev wsJ90 : List Cond := u_ws RJ9 TJ9 0
theorem nmJ9 : ∀ a, a < 0 → ∀ b, b < 0 → a ≠ b → (TJ9 a).2.1 ≠ (TJ9 b).2.1 := by decide +kernel
theorem tyJ9_ok : ∀ k, k < 0 → parseFieldDescriptor (TJ9 k).2.2.1 = some (tyJ9 k) := by decide +kernel
abbrev cJ9_min_7cf53 : ByteArray := prog_12_method_69_code
def yJ9_min_7cf53 : MethodName := ⟨RJ9, "min", "(II)I"⟩
def RJ0 : String := "java/lang/String"
def TJ0 : u_T := fun k => match k with
  | _ => ("", "", "", false)
def tyJ0 : Nat → FieldType := fun k => match k with
  | _ => .int
abbrev wsJ00 : List Cond := u_ws RJ0 TJ0 0
theorem nmJ0 : ∀ a, a < 0 → ∀ b, b < 0 → a ≠ b → (TJ0 a).2.1 ≠ (TJ0 b).2.1 := by decide +kernel
theorem tyJ0_ok : ∀ k, k < 0 → parseFieldDescriptor (TJ0 k).2.2.1 = some (tyJ0 k) := by decide +kernel
def RJ10 : String := "java/lang/System"
def TJ10 : u_T := fun k => match k with
  | _ => ("", "", "", false)
def tyJ10 : Nat → FieldType := fun k => match k with
  | _ => .int
abbrev wsJ100 : List Cond := u_ws RJ10 TJ10 0
theorem nmJ10 : ∀ a, a < 0 → ∀ b, b < 0 → a ≠ b → (TJ10 a).2.1 ≠ (TJ10 b).2.1 := by decide +kernel
theorem tyJ10_ok : ∀ k, k < 0 → parseFieldDescriptor (TJ10 k).2.2.1 = some (tyJ10 k) := by decide +kernel
def RL : String := "PageMarriagesLaw"
abbrev cL_cell : ByteArray := method_2_code
def yL_cell : MethodName := ⟨RL, "cell", "([II)I"⟩
abbrev cL_low : ByteArray := method_3_code
def yL_low : MethodName := ⟨RL, "low", "(II)I"⟩
abbrev cL_write : ByteArray := method_4_code
def yL_write : MethodName := ⟨RL, "write", "(LPageMarriages;III)I"⟩
abbrev cL_fork : ByteArray := method_5_code
def yL_fork : MethodName := ⟨RL, "fork", "(LPageMarriages;I)I"⟩
abbrev cL_exit : ByteArray := method_6_code
def yL_exit : MethodName := ⟨RL, "exit", "(LPageMarriages;I)I"⟩
abbrev cL_marry : ByteArray := method_7_code
def yL_marry : MethodName := ⟨RL, "marry", "(LPageMarriages;II)I"⟩
abbrev cL_tear : ByteArray := method_8_code
def yL_tear : MethodName := ⟨RL, "tear", "(LPageMarriages;II)I"⟩
abbrev cL_frame : ByteArray := method_9_code
def yL_frame : MethodName := ⟨RL, "frame", "(I[J)I"⟩
abbrev cL_one : ByteArray := method_10_code
def yL_one : MethodName := ⟨RL, "one", "(J)Z"⟩
abbrev cL_freeRun : ByteArray := method_11_code
def yL_freeRun : MethodName := ⟨RL, "freeRun", "(I[J)Z"⟩
abbrev cL_run : ByteArray := method_12_code
def yL_run : MethodName := ⟨RL, "run", "([J)I"⟩
abbrev cL_single : ByteArray := method_13_code
def yL_single : MethodName := ⟨RL, "single", "([J)I"⟩
abbrev cL_free : ByteArray := method_14_code
def yL_free : MethodName := ⟨RL, "free", "([J)I"⟩
abbrev cL_empty : ByteArray := method_15_code
def yL_empty : MethodName := ⟨RL, "empty", "(I[J)Z"⟩
abbrev cL_would : ByteArray := method_16_code
def yL_would : MethodName := ⟨RL, "would", "(I[I[J)I"⟩
abbrev cL_writes : ByteArray := method_17_code
def yL_writes : MethodName := ⟨RL, "writes", "(II[I[J[I)I"⟩
abbrev cL_place : ByteArray := method_18_code
def yL_place : MethodName := ⟨RL, "place", "(I[J)Z"⟩
abbrev cL_why : ByteArray := method_19_code
def yL_why : MethodName := ⟨RL, "why", "(I[I[J)I"⟩
abbrev cL_weds : ByteArray := method_20_code
def yL_weds : MethodName := ⟨RL, "weds", "(I[I[J[I)I"⟩
abbrev cL_press : ByteArray := method_21_code
def yL_press : MethodName := ⟨RL, "press", "(I[I[J[I)I"⟩
abbrev cL_same : ByteArray := method_22_code
def yL_same : MethodName := ⟨RL, "same", "(LPageMarriages;[I[J[I)Z"⟩
abbrev cL_copy : ByteArray := method_23_code
def yL_copy : MethodName := ⟨RL, "copy", "([I[J[I[I[J[I)V"⟩
abbrev cL_could : ByteArray := method_24_code
def yL_could : MethodName := ⟨RL, "could", "(LPageMarriages;I[I[J[I[I[J[I)Z"⟩
abbrev cL_law : ByteArray := code
def yL_law : MethodName := ⟨RL, "law", "([I)Z"⟩
theorem dX0_init_0 : decode cX0_init 0 = .ok (.aload_n 0, 1) := by decide +kernel
theorem dX0_init_1 : decode cX0_init 1 = .ok (.invokespecial 3, 3) := by decide +kernel
theorem dX0_init_4 : decode cX0_init 4 = .ok (.aload_n 0, 1) := by decide +kernel
theorem dX0_init_5 : decode cX0_init 5 = .ok (.bipush 14, 2) := by decide +kernel
theorem dX0_init_7 : decode cX0_init 7 = .ok (.anewarray 9, 3) := by decide +kernel
theorem dX0_init_10 : decode cX0_init 10 = .ok (.putfield 11, 3) := by decide +kernel
theorem dX0_init_13 : decode cX0_init 13 = .ok (.iconst 0, 1) := by decide +kernel
theorem dX0_init_14 : decode cX0_init 14 = .ok (.istore_n 1, 1) := by decide +kernel
theorem dX0_init_15 : decode cX0_init 15 = .ok (.iload_n 1, 1) := by decide +kernel
theorem dX0_init_16 : decode cX0_init 16 = .ok (.bipush 14, 2) := by decide +kernel
theorem dX0_init_18 : decode cX0_init 18 = .ok (.if_icmp .ge 22, 3) := by decide +kernel
theorem dX0_init_21 : decode cX0_init 21 = .ok (.aload_n 0, 1) := by decide +kernel
theorem dX0_init_22 : decode cX0_init 22 = .ok (.getfield 11, 3) := by decide +kernel
theorem dX0_init_25 : decode cX0_init 25 = .ok (.iload_n 1, 1) := by decide +kernel
theorem dX0_init_26 : decode cX0_init 26 = .ok (.new 9, 3) := by decide +kernel
theorem dX0_init_29 : decode cX0_init 29 = .ok (.dup, 1) := by decide +kernel
theorem dX0_init_30 : decode cX0_init 30 = .ok (.invokespecial 17, 3) := by decide +kernel
theorem dX0_init_33 : decode cX0_init 33 = .ok (.aastore, 1) := by decide +kernel
theorem dX0_init_34 : decode cX0_init 34 = .ok (.iinc 1 1, 3) := by decide +kernel
theorem dX0_init_37 : decode cX0_init 37 = .ok (.goto (-22), 3) := by decide +kernel
theorem dX0_init_40 : decode cX0_init 40 = .ok (.return_, 1) := by decide +kernel
theorem dX0_remember_0 : decode cX0_remember 0 = .ok (.aload_n 0, 1) := by decide +kernel
theorem dX0_remember_1 : decode cX0_remember 1 = .ok (.getfield 11, 3) := by decide +kernel
theorem dX0_remember_4 : decode cX0_remember 4 = .ok (.aload_n 0, 1) := by decide +kernel
theorem dX0_remember_5 : decode cX0_remember 5 = .ok (.getfield 22, 3) := by decide +kernel
theorem dX0_remember_8 : decode cX0_remember 8 = .ok (.aaload, 1) := by decide +kernel
theorem dX0_remember_9 : decode cX0_remember 9 = .ok (.aload_n 1, 1) := by decide +kernel
theorem dX0_remember_10 : decode cX0_remember 10 = .ok (.invokevirtual 25, 3) := by decide +kernel
theorem dX0_remember_13 : decode cX0_remember 13 = .ok (.aload_n 0, 1) := by decide +kernel
theorem dX0_remember_14 : decode cX0_remember 14 = .ok (.aload_n 0, 1) := by decide +kernel
theorem dX0_remember_15 : decode cX0_remember 15 = .ok (.getfield 22, 3) := by decide +kernel
theorem dX0_remember_18 : decode cX0_remember 18 = .ok (.iconst 1, 1) := by decide +kernel
theorem dX0_remember_19 : decode cX0_remember 19 = .ok (.iadd, 1) := by decide +kernel
theorem dX0_remember_20 : decode cX0_remember 20 = .ok (.bipush 14, 2) := by decide +kernel
theorem dX0_remember_22 : decode cX0_remember 22 = .ok (.irem, 1) := by decide +kernel
theorem dX0_remember_23 : decode cX0_remember 23 = .ok (.putfield 22, 3) := by decide +kernel
theorem dX0_remember_26 : decode cX0_remember 26 = .ok (.aload_n 0, 1) := by decide +kernel
theorem dX0_remember_27 : decode cX0_remember 27 = .ok (.aload_n 0, 1) := by decide +kernel
theorem dX0_remember_28 : decode cX0_remember 28 = .ok (.getfield 18, 3) := by decide +kernel
theorem dX0_remember_31 : decode cX0_remember 31 = .ok (.iconst 1, 1) := by decide +kernel
theorem dX0_remember_32 : decode cX0_remember 32 = .ok (.iadd, 1) := by decide +kernel
theorem dX0_remember_33 : decode cX0_remember 33 = .ok (.bipush 14, 2) := by decide +kernel
theorem dX0_remember_35 : decode cX0_remember 35 = .ok (.invokestatic 29, 3) := by decide +kernel
theorem dX0_remember_38 : decode cX0_remember 38 = .ok (.putfield 18, 3) := by decide +kernel
theorem dX0_remember_41 : decode cX0_remember 41 = .ok (.return_, 1) := by decide +kernel
theorem dX1_init_0 : decode cX1_init 0 = .ok (.aload_n 0, 1) := by decide +kernel
theorem dX1_init_1 : decode cX1_init 1 = .ok (.invokespecial 3, 3) := by decide +kernel
theorem dX1_init_4 : decode cX1_init 4 = .ok (.aload_n 0, 1) := by decide +kernel
theorem dX1_init_5 : decode cX1_init 5 = .ok (.bipush 64, 2) := by decide +kernel
theorem dX1_init_7 : decode cX1_init 7 = .ok (.newarray .int, 2) := by decide +kernel
theorem dX1_init_9 : decode cX1_init 9 = .ok (.putfield 9, 3) := by decide +kernel
theorem dX1_init_12 : decode cX1_init 12 = .ok (.aload_n 0, 1) := by decide +kernel
theorem dX1_init_13 : decode cX1_init 13 = .ok (.bipush 32, 2) := by decide +kernel
theorem dX1_init_15 : decode cX1_init 15 = .ok (.newarray .int, 2) := by decide +kernel
theorem dX1_init_17 : decode cX1_init 17 = .ok (.putfield 15, 3) := by decide +kernel
theorem dX1_init_20 : decode cX1_init 20 = .ok (.aload_n 0, 1) := by decide +kernel
theorem dX1_init_21 : decode cX1_init 21 = .ok (.bipush 32, 2) := by decide +kernel
theorem dX1_init_23 : decode cX1_init 23 = .ok (.newarray .int, 2) := by decide +kernel
theorem dX1_init_25 : decode cX1_init 25 = .ok (.putfield 18, 3) := by decide +kernel
theorem dX1_init_28 : decode cX1_init 28 = .ok (.aload_n 0, 1) := by decide +kernel
theorem dX1_init_29 : decode cX1_init 29 = .ok (.invokevirtual 21, 3) := by decide +kernel
theorem dX1_init_32 : decode cX1_init 32 = .ok (.return_, 1) := by decide +kernel
theorem dX1_beginAnew_0 : decode cX1_beginAnew 0 = .ok (.iconst 0, 1) := by decide +kernel
theorem dX1_beginAnew_1 : decode cX1_beginAnew 1 = .ok (.istore_n 1, 1) := by decide +kernel
theorem dX1_beginAnew_2 : decode cX1_beginAnew 2 = .ok (.iload_n 1, 1) := by decide +kernel
theorem dX1_beginAnew_3 : decode cX1_beginAnew 3 = .ok (.bipush 64, 2) := by decide +kernel
theorem dX1_beginAnew_5 : decode cX1_beginAnew 5 = .ok (.if_icmp .ge 16, 3) := by decide +kernel
theorem dX1_beginAnew_8 : decode cX1_beginAnew 8 = .ok (.aload_n 0, 1) := by decide +kernel
theorem dX1_beginAnew_9 : decode cX1_beginAnew 9 = .ok (.getfield 9, 3) := by decide +kernel
theorem dX1_beginAnew_12 : decode cX1_beginAnew 12 = .ok (.iload_n 1, 1) := by decide +kernel
theorem dX1_beginAnew_13 : decode cX1_beginAnew 13 = .ok (.iconst (-1), 1) := by decide +kernel
theorem dX1_beginAnew_14 : decode cX1_beginAnew 14 = .ok (.iastore, 1) := by decide +kernel
theorem dX1_beginAnew_15 : decode cX1_beginAnew 15 = .ok (.iinc 1 1, 3) := by decide +kernel
theorem dX1_beginAnew_18 : decode cX1_beginAnew 18 = .ok (.goto (-16), 3) := by decide +kernel
theorem dX1_beginAnew_21 : decode cX1_beginAnew 21 = .ok (.iconst 0, 1) := by decide +kernel
theorem dX1_beginAnew_22 : decode cX1_beginAnew 22 = .ok (.istore_n 1, 1) := by decide +kernel
theorem dX1_beginAnew_23 : decode cX1_beginAnew 23 = .ok (.iload_n 1, 1) := by decide +kernel
theorem dX1_beginAnew_24 : decode cX1_beginAnew 24 = .ok (.bipush 32, 2) := by decide +kernel
theorem dX1_beginAnew_26 : decode cX1_beginAnew 26 = .ok (.if_icmp .ge 23, 3) := by decide +kernel
theorem dX1_beginAnew_29 : decode cX1_beginAnew 29 = .ok (.aload_n 0, 1) := by decide +kernel
theorem dX1_beginAnew_30 : decode cX1_beginAnew 30 = .ok (.getfield 15, 3) := by decide +kernel
theorem dX1_beginAnew_33 : decode cX1_beginAnew 33 = .ok (.iload_n 1, 1) := by decide +kernel
theorem dX1_beginAnew_34 : decode cX1_beginAnew 34 = .ok (.iconst 0, 1) := by decide +kernel
theorem dX1_beginAnew_35 : decode cX1_beginAnew 35 = .ok (.iastore, 1) := by decide +kernel
theorem dX1_beginAnew_36 : decode cX1_beginAnew 36 = .ok (.aload_n 0, 1) := by decide +kernel
theorem dX1_beginAnew_37 : decode cX1_beginAnew 37 = .ok (.getfield 18, 3) := by decide +kernel
theorem dX1_beginAnew_40 : decode cX1_beginAnew 40 = .ok (.iload_n 1, 1) := by decide +kernel
theorem dX1_beginAnew_41 : decode cX1_beginAnew 41 = .ok (.iconst 0, 1) := by decide +kernel
theorem dX1_beginAnew_42 : decode cX1_beginAnew 42 = .ok (.iastore, 1) := by decide +kernel
theorem dX1_beginAnew_43 : decode cX1_beginAnew 43 = .ok (.iinc 1 1, 3) := by decide +kernel
theorem dX1_beginAnew_46 : decode cX1_beginAnew 46 = .ok (.goto (-23), 3) := by decide +kernel
theorem dX1_beginAnew_49 : decode cX1_beginAnew 49 = .ok (.aload_n 0, 1) := by decide +kernel
theorem dX1_beginAnew_50 : decode cX1_beginAnew 50 = .ok (.iconst 1, 1) := by decide +kernel
theorem dX1_beginAnew_51 : decode cX1_beginAnew 51 = .ok (.putfield 24, 3) := by decide +kernel
theorem dX1_beginAnew_54 : decode cX1_beginAnew 54 = .ok (.aload_n 0, 1) := by decide +kernel
theorem dX1_beginAnew_55 : decode cX1_beginAnew 55 = .ok (.iconst 0, 1) := by decide +kernel
theorem dX1_beginAnew_56 : decode cX1_beginAnew 56 = .ok (.putfield 28, 3) := by decide +kernel
theorem dX1_beginAnew_59 : decode cX1_beginAnew 59 = .ok (.aload_n 0, 1) := by decide +kernel
theorem dX1_beginAnew_60 : decode cX1_beginAnew 60 = .ok (.iconst 0, 1) := by decide +kernel
theorem dX1_beginAnew_61 : decode cX1_beginAnew 61 = .ok (.putfield 31, 3) := by decide +kernel
theorem dX1_beginAnew_64 : decode cX1_beginAnew 64 = .ok (.aload_n 0, 1) := by decide +kernel
theorem dX1_beginAnew_65 : decode cX1_beginAnew 65 = .ok (.iconst 0, 1) := by decide +kernel
theorem dX1_beginAnew_66 : decode cX1_beginAnew 66 = .ok (.putfield 35, 3) := by decide +kernel
theorem dX1_beginAnew_69 : decode cX1_beginAnew 69 = .ok (.aload_n 0, 1) := by decide +kernel
theorem dX1_beginAnew_70 : decode cX1_beginAnew 70 = .ok (.iconst 0, 1) := by decide +kernel
theorem dX1_beginAnew_71 : decode cX1_beginAnew 71 = .ok (.putfield 38, 3) := by decide +kernel
theorem dX1_beginAnew_74 : decode cX1_beginAnew 74 = .ok (.aload_n 0, 1) := by decide +kernel
theorem dX1_beginAnew_75 : decode cX1_beginAnew 75 = .ok (.iconst 0, 1) := by decide +kernel
theorem dX1_beginAnew_76 : decode cX1_beginAnew 76 = .ok (.putfield 41, 3) := by decide +kernel
theorem dX1_beginAnew_79 : decode cX1_beginAnew 79 = .ok (.aload_n 0, 1) := by decide +kernel
theorem dX1_beginAnew_80 : decode cX1_beginAnew 80 = .ok (.iconst 0, 1) := by decide +kernel
theorem dX1_beginAnew_81 : decode cX1_beginAnew 81 = .ok (.putfield 44, 3) := by decide +kernel
theorem dX1_beginAnew_84 : decode cX1_beginAnew 84 = .ok (.return_, 1) := by decide +kernel
theorem dX1_copyFrom_0 : decode cX1_copyFrom 0 = .ok (.aload_n 1, 1) := by decide +kernel
theorem dX1_copyFrom_1 : decode cX1_copyFrom 1 = .ok (.getfield 9, 3) := by decide +kernel
theorem dX1_copyFrom_4 : decode cX1_copyFrom 4 = .ok (.iconst 0, 1) := by decide +kernel
theorem dX1_copyFrom_5 : decode cX1_copyFrom 5 = .ok (.aload_n 0, 1) := by decide +kernel
theorem dX1_copyFrom_6 : decode cX1_copyFrom 6 = .ok (.getfield 9, 3) := by decide +kernel
theorem dX1_copyFrom_9 : decode cX1_copyFrom 9 = .ok (.iconst 0, 1) := by decide +kernel
theorem dX1_copyFrom_10 : decode cX1_copyFrom 10 = .ok (.bipush 64, 2) := by decide +kernel
theorem dX1_copyFrom_12 : decode cX1_copyFrom 12 = .ok (.invokestatic 47, 3) := by decide +kernel
theorem dX1_copyFrom_15 : decode cX1_copyFrom 15 = .ok (.aload_n 1, 1) := by decide +kernel
theorem dX1_copyFrom_16 : decode cX1_copyFrom 16 = .ok (.getfield 15, 3) := by decide +kernel
theorem dX1_copyFrom_19 : decode cX1_copyFrom 19 = .ok (.iconst 0, 1) := by decide +kernel
theorem dX1_copyFrom_20 : decode cX1_copyFrom 20 = .ok (.aload_n 0, 1) := by decide +kernel
theorem dX1_copyFrom_21 : decode cX1_copyFrom 21 = .ok (.getfield 15, 3) := by decide +kernel
theorem dX1_copyFrom_24 : decode cX1_copyFrom 24 = .ok (.iconst 0, 1) := by decide +kernel
theorem dX1_copyFrom_25 : decode cX1_copyFrom 25 = .ok (.bipush 32, 2) := by decide +kernel
theorem dX1_copyFrom_27 : decode cX1_copyFrom 27 = .ok (.invokestatic 47, 3) := by decide +kernel
theorem dX1_copyFrom_30 : decode cX1_copyFrom 30 = .ok (.aload_n 1, 1) := by decide +kernel
theorem dX1_copyFrom_31 : decode cX1_copyFrom 31 = .ok (.getfield 18, 3) := by decide +kernel
theorem dX1_copyFrom_34 : decode cX1_copyFrom 34 = .ok (.iconst 0, 1) := by decide +kernel
theorem dX1_copyFrom_35 : decode cX1_copyFrom 35 = .ok (.aload_n 0, 1) := by decide +kernel
theorem dX1_copyFrom_36 : decode cX1_copyFrom 36 = .ok (.getfield 18, 3) := by decide +kernel
theorem dX1_copyFrom_39 : decode cX1_copyFrom 39 = .ok (.iconst 0, 1) := by decide +kernel
theorem dX1_copyFrom_40 : decode cX1_copyFrom 40 = .ok (.bipush 32, 2) := by decide +kernel
theorem dX1_copyFrom_42 : decode cX1_copyFrom 42 = .ok (.invokestatic 47, 3) := by decide +kernel
theorem dX1_copyFrom_45 : decode cX1_copyFrom 45 = .ok (.aload_n 0, 1) := by decide +kernel
theorem dX1_copyFrom_46 : decode cX1_copyFrom 46 = .ok (.aload_n 1, 1) := by decide +kernel
theorem dX1_copyFrom_47 : decode cX1_copyFrom 47 = .ok (.getfield 24, 3) := by decide +kernel
theorem dX1_copyFrom_50 : decode cX1_copyFrom 50 = .ok (.putfield 24, 3) := by decide +kernel
theorem dX1_copyFrom_53 : decode cX1_copyFrom 53 = .ok (.aload_n 0, 1) := by decide +kernel
theorem dX1_copyFrom_54 : decode cX1_copyFrom 54 = .ok (.aload_n 1, 1) := by decide +kernel
theorem dX1_copyFrom_55 : decode cX1_copyFrom 55 = .ok (.getfield 28, 3) := by decide +kernel
theorem dX1_copyFrom_58 : decode cX1_copyFrom 58 = .ok (.putfield 28, 3) := by decide +kernel
theorem dX1_copyFrom_61 : decode cX1_copyFrom 61 = .ok (.aload_n 0, 1) := by decide +kernel
theorem dX1_copyFrom_62 : decode cX1_copyFrom 62 = .ok (.aload_n 1, 1) := by decide +kernel
theorem dX1_copyFrom_63 : decode cX1_copyFrom 63 = .ok (.getfield 31, 3) := by decide +kernel
theorem dX1_copyFrom_66 : decode cX1_copyFrom 66 = .ok (.putfield 31, 3) := by decide +kernel
theorem dX1_copyFrom_69 : decode cX1_copyFrom 69 = .ok (.aload_n 0, 1) := by decide +kernel
theorem dX1_copyFrom_70 : decode cX1_copyFrom 70 = .ok (.aload_n 1, 1) := by decide +kernel
theorem dX1_copyFrom_71 : decode cX1_copyFrom 71 = .ok (.getfield 35, 3) := by decide +kernel
theorem dX1_copyFrom_74 : decode cX1_copyFrom 74 = .ok (.putfield 35, 3) := by decide +kernel
theorem dX1_copyFrom_77 : decode cX1_copyFrom 77 = .ok (.aload_n 0, 1) := by decide +kernel
theorem dX1_copyFrom_78 : decode cX1_copyFrom 78 = .ok (.aload_n 1, 1) := by decide +kernel
theorem dX1_copyFrom_79 : decode cX1_copyFrom 79 = .ok (.getfield 38, 3) := by decide +kernel
theorem dX1_copyFrom_82 : decode cX1_copyFrom 82 = .ok (.putfield 38, 3) := by decide +kernel
theorem dX1_copyFrom_85 : decode cX1_copyFrom 85 = .ok (.aload_n 0, 1) := by decide +kernel
theorem dX1_copyFrom_86 : decode cX1_copyFrom 86 = .ok (.aload_n 1, 1) := by decide +kernel
theorem dX1_copyFrom_87 : decode cX1_copyFrom 87 = .ok (.getfield 41, 3) := by decide +kernel
theorem dX1_copyFrom_90 : decode cX1_copyFrom 90 = .ok (.putfield 41, 3) := by decide +kernel
theorem dX1_copyFrom_93 : decode cX1_copyFrom 93 = .ok (.aload_n 0, 1) := by decide +kernel
theorem dX1_copyFrom_94 : decode cX1_copyFrom 94 = .ok (.aload_n 1, 1) := by decide +kernel
theorem dX1_copyFrom_95 : decode cX1_copyFrom 95 = .ok (.getfield 44, 3) := by decide +kernel
theorem dX1_copyFrom_98 : decode cX1_copyFrom 98 = .ok (.putfield 44, 3) := by decide +kernel
theorem dX1_copyFrom_101 : decode cX1_copyFrom 101 = .ok (.return_, 1) := by decide +kernel
theorem dX1_hasProcess_0 : decode cX1_hasProcess 0 = .ok (.iload_n 1, 1) := by decide +kernel
theorem dX1_hasProcess_1 : decode cX1_hasProcess 1 = .ok (.ifCond .lt 24, 3) := by decide +kernel
theorem dX1_hasProcess_4 : decode cX1_hasProcess 4 = .ok (.iload_n 1, 1) := by decide +kernel
theorem dX1_hasProcess_5 : decode cX1_hasProcess 5 = .ok (.iconst 4, 1) := by decide +kernel
theorem dX1_hasProcess_6 : decode cX1_hasProcess 6 = .ok (.if_icmp .ge 19, 3) := by decide +kernel
theorem dX1_hasProcess_9 : decode cX1_hasProcess 9 = .ok (.aload_n 0, 1) := by decide +kernel
theorem dX1_hasProcess_10 : decode cX1_hasProcess 10 = .ok (.getfield 24, 3) := by decide +kernel
theorem dX1_hasProcess_13 : decode cX1_hasProcess 13 = .ok (.iload_n 1, 1) := by decide +kernel
theorem dX1_hasProcess_14 : decode cX1_hasProcess 14 = .ok (.ishr, 1) := by decide +kernel
theorem dX1_hasProcess_15 : decode cX1_hasProcess 15 = .ok (.iconst 1, 1) := by decide +kernel
theorem dX1_hasProcess_16 : decode cX1_hasProcess 16 = .ok (.iand, 1) := by decide +kernel
theorem dX1_hasProcess_17 : decode cX1_hasProcess 17 = .ok (.iconst 1, 1) := by decide +kernel
theorem dX1_hasProcess_18 : decode cX1_hasProcess 18 = .ok (.if_icmp .ne 7, 3) := by decide +kernel
theorem dX1_hasProcess_21 : decode cX1_hasProcess 21 = .ok (.iconst 1, 1) := by decide +kernel
theorem dX1_hasProcess_22 : decode cX1_hasProcess 22 = .ok (.goto 4, 3) := by decide +kernel
theorem dX1_hasProcess_25 : decode cX1_hasProcess 25 = .ok (.iconst 0, 1) := by decide +kernel
theorem dX1_hasProcess_26 : decode cX1_hasProcess 26 = .ok (.ireturn, 1) := by decide +kernel
theorem dX1_hasPage_0 : decode cX1_hasPage 0 = .ok (.aload_n 0, 1) := by decide +kernel
theorem dX1_hasPage_1 : decode cX1_hasPage 1 = .ok (.iload_n 1, 1) := by decide +kernel
theorem dX1_hasPage_2 : decode cX1_hasPage 2 = .ok (.invokevirtual 53, 3) := by decide +kernel
theorem dX1_hasPage_5 : decode cX1_hasPage 5 = .ok (.ifCond .eq 17, 3) := by decide +kernel
theorem dX1_hasPage_8 : decode cX1_hasPage 8 = .ok (.iload_n 2, 1) := by decide +kernel
theorem dX1_hasPage_9 : decode cX1_hasPage 9 = .ok (.ifCond .lt 13, 3) := by decide +kernel
theorem dX1_hasPage_12 : decode cX1_hasPage 12 = .ok (.iload_n 2, 1) := by decide +kernel
theorem dX1_hasPage_13 : decode cX1_hasPage 13 = .ok (.bipush 16, 2) := by decide +kernel
theorem dX1_hasPage_15 : decode cX1_hasPage 15 = .ok (.if_icmp .ge 7, 3) := by decide +kernel
theorem dX1_hasPage_18 : decode cX1_hasPage 18 = .ok (.iconst 1, 1) := by decide +kernel
theorem dX1_hasPage_19 : decode cX1_hasPage 19 = .ok (.goto 4, 3) := by decide +kernel
theorem dX1_hasPage_22 : decode cX1_hasPage 22 = .ok (.iconst 0, 1) := by decide +kernel
theorem dX1_hasPage_23 : decode cX1_hasPage 23 = .ok (.ireturn, 1) := by decide +kernel
theorem dX1_hasGroup_0 : decode cX1_hasGroup 0 = .ok (.aload_n 0, 1) := by decide +kernel
theorem dX1_hasGroup_1 : decode cX1_hasGroup 1 = .ok (.iload_n 1, 1) := by decide +kernel
theorem dX1_hasGroup_2 : decode cX1_hasGroup 2 = .ok (.invokevirtual 53, 3) := by decide +kernel
theorem dX1_hasGroup_5 : decode cX1_hasGroup 5 = .ok (.ifCond .eq 16, 3) := by decide +kernel
theorem dX1_hasGroup_8 : decode cX1_hasGroup 8 = .ok (.iload_n 2, 1) := by decide +kernel
theorem dX1_hasGroup_9 : decode cX1_hasGroup 9 = .ok (.ifCond .lt 12, 3) := by decide +kernel
theorem dX1_hasGroup_12 : decode cX1_hasGroup 12 = .ok (.iload_n 2, 1) := by decide +kernel
theorem dX1_hasGroup_13 : decode cX1_hasGroup 13 = .ok (.iconst 4, 1) := by decide +kernel
theorem dX1_hasGroup_14 : decode cX1_hasGroup 14 = .ok (.if_icmp .ge 7, 3) := by decide +kernel
theorem dX1_hasGroup_17 : decode cX1_hasGroup 17 = .ok (.iconst 1, 1) := by decide +kernel
theorem dX1_hasGroup_18 : decode cX1_hasGroup 18 = .ok (.goto 4, 3) := by decide +kernel
theorem dX1_hasGroup_21 : decode cX1_hasGroup 21 = .ok (.iconst 0, 1) := by decide +kernel
theorem dX1_hasGroup_22 : decode cX1_hasGroup 22 = .ok (.ireturn, 1) := by decide +kernel
theorem dX1_processes_0 : decode cX1_processes 0 = .ok (.aload_n 0, 1) := by decide +kernel
theorem dX1_processes_1 : decode cX1_processes 1 = .ok (.getfield 24, 3) := by decide +kernel
theorem dX1_processes_4 : decode cX1_processes 4 = .ok (.ireturn, 1) := by decide +kernel
theorem dX1_freeFrames_0 : decode cX1_freeFrames 0 = .ok (.iconst 0, 1) := by decide +kernel
theorem dX1_freeFrames_1 : decode cX1_freeFrames 1 = .ok (.istore_n 1, 1) := by decide +kernel
theorem dX1_freeFrames_2 : decode cX1_freeFrames 2 = .ok (.iconst 0, 1) := by decide +kernel
theorem dX1_freeFrames_3 : decode cX1_freeFrames 3 = .ok (.istore_n 2, 1) := by decide +kernel
theorem dX1_freeFrames_4 : decode cX1_freeFrames 4 = .ok (.iload_n 2, 1) := by decide +kernel
theorem dX1_freeFrames_5 : decode cX1_freeFrames 5 = .ok (.bipush 32, 2) := by decide +kernel
theorem dX1_freeFrames_7 : decode cX1_freeFrames 7 = .ok (.if_icmp .ge 21, 3) := by decide +kernel
theorem dX1_freeFrames_10 : decode cX1_freeFrames 10 = .ok (.aload_n 0, 1) := by decide +kernel
theorem dX1_freeFrames_11 : decode cX1_freeFrames 11 = .ok (.getfield 15, 3) := by decide +kernel
theorem dX1_freeFrames_14 : decode cX1_freeFrames 14 = .ok (.iload_n 2, 1) := by decide +kernel
theorem dX1_freeFrames_15 : decode cX1_freeFrames 15 = .ok (.iaload, 1) := by decide +kernel
theorem dX1_freeFrames_16 : decode cX1_freeFrames 16 = .ok (.ifCond .ne 6, 3) := by decide +kernel
theorem dX1_freeFrames_19 : decode cX1_freeFrames 19 = .ok (.iinc 1 1, 3) := by decide +kernel
theorem dX1_freeFrames_22 : decode cX1_freeFrames 22 = .ok (.iinc 2 1, 3) := by decide +kernel
theorem dX1_freeFrames_25 : decode cX1_freeFrames 25 = .ok (.goto (-21), 3) := by decide +kernel
theorem dX1_freeFrames_28 : decode cX1_freeFrames 28 = .ok (.iload_n 1, 1) := by decide +kernel
theorem dX1_freeFrames_29 : decode cX1_freeFrames 29 = .ok (.ireturn, 1) := by decide +kernel
theorem dX1_sharedFrames_0 : decode cX1_sharedFrames 0 = .ok (.iconst 0, 1) := by decide +kernel
theorem dX1_sharedFrames_1 : decode cX1_sharedFrames 1 = .ok (.istore_n 1, 1) := by decide +kernel
theorem dX1_sharedFrames_2 : decode cX1_sharedFrames 2 = .ok (.iconst 0, 1) := by decide +kernel
theorem dX1_sharedFrames_3 : decode cX1_sharedFrames 3 = .ok (.istore_n 2, 1) := by decide +kernel
theorem dX1_sharedFrames_4 : decode cX1_sharedFrames 4 = .ok (.iload_n 2, 1) := by decide +kernel
theorem dX1_sharedFrames_5 : decode cX1_sharedFrames 5 = .ok (.bipush 32, 2) := by decide +kernel
theorem dX1_sharedFrames_7 : decode cX1_sharedFrames 7 = .ok (.if_icmp .ge 20, 3) := by decide +kernel
theorem dX1_sharedFrames_10 : decode cX1_sharedFrames 10 = .ok (.aload_n 0, 1) := by decide +kernel
theorem dX1_sharedFrames_11 : decode cX1_sharedFrames 11 = .ok (.iload_n 2, 1) := by decide +kernel
theorem dX1_sharedFrames_12 : decode cX1_sharedFrames 12 = .ok (.invokevirtual 57, 3) := by decide +kernel
theorem dX1_sharedFrames_15 : decode cX1_sharedFrames 15 = .ok (.ifCond .eq 6, 3) := by decide +kernel
theorem dX1_sharedFrames_18 : decode cX1_sharedFrames 18 = .ok (.iinc 1 1, 3) := by decide +kernel
theorem dX1_sharedFrames_21 : decode cX1_sharedFrames 21 = .ok (.iinc 2 1, 3) := by decide +kernel
theorem dX1_sharedFrames_24 : decode cX1_sharedFrames 24 = .ok (.goto (-20), 3) := by decide +kernel
theorem dX1_sharedFrames_27 : decode cX1_sharedFrames 27 = .ok (.iload_n 1, 1) := by decide +kernel
theorem dX1_sharedFrames_28 : decode cX1_sharedFrames 28 = .ok (.ireturn, 1) := by decide +kernel
theorem dX1_freeRuns_0 : decode cX1_freeRuns 0 = .ok (.iconst 0, 1) := by decide +kernel
theorem dX1_freeRuns_1 : decode cX1_freeRuns 1 = .ok (.istore_n 1, 1) := by decide +kernel
theorem dX1_freeRuns_2 : decode cX1_freeRuns 2 = .ok (.iconst 0, 1) := by decide +kernel
theorem dX1_freeRuns_3 : decode cX1_freeRuns 3 = .ok (.istore_n 2, 1) := by decide +kernel
theorem dX1_freeRuns_4 : decode cX1_freeRuns 4 = .ok (.iload_n 2, 1) := by decide +kernel
theorem dX1_freeRuns_5 : decode cX1_freeRuns 5 = .ok (.bipush 8, 2) := by decide +kernel
theorem dX1_freeRuns_7 : decode cX1_freeRuns 7 = .ok (.if_icmp .ge 20, 3) := by decide +kernel
theorem dX1_freeRuns_10 : decode cX1_freeRuns 10 = .ok (.aload_n 0, 1) := by decide +kernel
theorem dX1_freeRuns_11 : decode cX1_freeRuns 11 = .ok (.iload_n 2, 1) := by decide +kernel
theorem dX1_freeRuns_12 : decode cX1_freeRuns 12 = .ok (.invokevirtual 60, 3) := by decide +kernel
theorem dX1_freeRuns_15 : decode cX1_freeRuns 15 = .ok (.ifCond .eq 6, 3) := by decide +kernel
theorem dX1_freeRuns_18 : decode cX1_freeRuns 18 = .ok (.iinc 1 1, 3) := by decide +kernel
theorem dX1_freeRuns_21 : decode cX1_freeRuns 21 = .ok (.iinc 2 1, 3) := by decide +kernel
theorem dX1_freeRuns_24 : decode cX1_freeRuns 24 = .ok (.goto (-20), 3) := by decide +kernel
theorem dX1_freeRuns_27 : decode cX1_freeRuns 27 = .ok (.iload_n 1, 1) := by decide +kernel
theorem dX1_freeRuns_28 : decode cX1_freeRuns 28 = .ok (.ireturn, 1) := by decide +kernel
theorem dX1_bigGroups_0 : decode cX1_bigGroups 0 = .ok (.aload_n 0, 1) := by decide +kernel
theorem dX1_bigGroups_1 : decode cX1_bigGroups 1 = .ok (.getfield 28, 3) := by decide +kernel
theorem dX1_bigGroups_4 : decode cX1_bigGroups 4 = .ok (.invokestatic 63, 3) := by decide +kernel
theorem dX1_bigGroups_7 : decode cX1_bigGroups 7 = .ok (.ireturn, 1) := by decide +kernel
theorem dX1_widows_0 : decode cX1_widows 0 = .ok (.iconst 0, 1) := by decide +kernel
theorem dX1_widows_1 : decode cX1_widows 1 = .ok (.istore_n 1, 1) := by decide +kernel
theorem dX1_widows_2 : decode cX1_widows 2 = .ok (.iconst 0, 1) := by decide +kernel
theorem dX1_widows_3 : decode cX1_widows 3 = .ok (.istore_n 2, 1) := by decide +kernel
theorem dX1_widows_4 : decode cX1_widows 4 = .ok (.iload_n 2, 1) := by decide +kernel
theorem dX1_widows_5 : decode cX1_widows 5 = .ok (.iconst 4, 1) := by decide +kernel
theorem dX1_widows_6 : decode cX1_widows 6 = .ok (.if_icmp .ge 34, 3) := by decide +kernel
theorem dX1_widows_9 : decode cX1_widows 9 = .ok (.iconst 0, 1) := by decide +kernel
theorem dX1_widows_10 : decode cX1_widows 10 = .ok (.istore_n 3, 1) := by decide +kernel
theorem dX1_widows_11 : decode cX1_widows 11 = .ok (.iload_n 3, 1) := by decide +kernel
theorem dX1_widows_12 : decode cX1_widows 12 = .ok (.iconst 4, 1) := by decide +kernel
theorem dX1_widows_13 : decode cX1_widows 13 = .ok (.if_icmp .ge 21, 3) := by decide +kernel
theorem dX1_widows_16 : decode cX1_widows 16 = .ok (.aload_n 0, 1) := by decide +kernel
theorem dX1_widows_17 : decode cX1_widows 17 = .ok (.iload_n 2, 1) := by decide +kernel
theorem dX1_widows_18 : decode cX1_widows 18 = .ok (.iload_n 3, 1) := by decide +kernel
theorem dX1_widows_19 : decode cX1_widows 19 = .ok (.invokevirtual 69, 3) := by decide +kernel
theorem dX1_widows_22 : decode cX1_widows 22 = .ok (.ifCond .eq 6, 3) := by decide +kernel
theorem dX1_widows_25 : decode cX1_widows 25 = .ok (.iinc 1 1, 3) := by decide +kernel
theorem dX1_widows_28 : decode cX1_widows 28 = .ok (.iinc 3 1, 3) := by decide +kernel
theorem dX1_widows_31 : decode cX1_widows 31 = .ok (.goto (-20), 3) := by decide +kernel
theorem dX1_widows_34 : decode cX1_widows 34 = .ok (.iinc 2 1, 3) := by decide +kernel
theorem dX1_widows_37 : decode cX1_widows 37 = .ok (.goto (-33), 3) := by decide +kernel
theorem dX1_widows_40 : decode cX1_widows 40 = .ok (.iload_n 1, 1) := by decide +kernel
theorem dX1_widows_41 : decode cX1_widows 41 = .ok (.ireturn, 1) := by decide +kernel
theorem dX1_frameOf_0 : decode cX1_frameOf 0 = .ok (.iload_n 1, 1) := by decide +kernel
theorem dX1_frameOf_1 : decode cX1_frameOf 1 = .ok (.ifCond .lt 22, 3) := by decide +kernel
theorem dX1_frameOf_4 : decode cX1_frameOf 4 = .ok (.iload_n 1, 1) := by decide +kernel
theorem dX1_frameOf_5 : decode cX1_frameOf 5 = .ok (.iconst 4, 1) := by decide +kernel
theorem dX1_frameOf_6 : decode cX1_frameOf 6 = .ok (.if_icmp .ge 17, 3) := by decide +kernel
theorem dX1_frameOf_9 : decode cX1_frameOf 9 = .ok (.iload_n 2, 1) := by decide +kernel
theorem dX1_frameOf_10 : decode cX1_frameOf 10 = .ok (.ifCond .lt 13, 3) := by decide +kernel
theorem dX1_frameOf_13 : decode cX1_frameOf 13 = .ok (.iload_n 2, 1) := by decide +kernel
theorem dX1_frameOf_14 : decode cX1_frameOf 14 = .ok (.bipush 16, 2) := by decide +kernel
theorem dX1_frameOf_16 : decode cX1_frameOf 16 = .ok (.if_icmp .ge 7, 3) := by decide +kernel
theorem dX1_frameOf_19 : decode cX1_frameOf 19 = .ok (.iconst 1, 1) := by decide +kernel
theorem dX1_frameOf_20 : decode cX1_frameOf 20 = .ok (.goto 4, 3) := by decide +kernel
theorem dX1_frameOf_23 : decode cX1_frameOf 23 = .ok (.iconst 0, 1) := by decide +kernel
theorem dX1_frameOf_24 : decode cX1_frameOf 24 = .ok (.istore_n 3, 1) := by decide +kernel
theorem dX1_frameOf_25 : decode cX1_frameOf 25 = .ok (.iload_n 3, 1) := by decide +kernel
theorem dX1_frameOf_26 : decode cX1_frameOf 26 = .ok (.ifCond .eq 17, 3) := by decide +kernel
theorem dX1_frameOf_29 : decode cX1_frameOf 29 = .ok (.aload_n 0, 1) := by decide +kernel
theorem dX1_frameOf_30 : decode cX1_frameOf 30 = .ok (.getfield 9, 3) := by decide +kernel
theorem dX1_frameOf_33 : decode cX1_frameOf 33 = .ok (.bipush 16, 2) := by decide +kernel
theorem dX1_frameOf_35 : decode cX1_frameOf 35 = .ok (.iload_n 1, 1) := by decide +kernel
theorem dX1_frameOf_36 : decode cX1_frameOf 36 = .ok (.imul, 1) := by decide +kernel
theorem dX1_frameOf_37 : decode cX1_frameOf 37 = .ok (.iload_n 2, 1) := by decide +kernel
theorem dX1_frameOf_38 : decode cX1_frameOf 38 = .ok (.iadd, 1) := by decide +kernel
theorem dX1_frameOf_39 : decode cX1_frameOf 39 = .ok (.iaload, 1) := by decide +kernel
theorem dX1_frameOf_40 : decode cX1_frameOf 40 = .ok (.goto 4, 3) := by decide +kernel
theorem dX1_frameOf_43 : decode cX1_frameOf 43 = .ok (.iconst (-1), 1) := by decide +kernel
theorem dX1_frameOf_44 : decode cX1_frameOf 44 = .ok (.ireturn, 1) := by decide +kernel
theorem dX1_valueOf_0 : decode cX1_valueOf 0 = .ok (.aload_n 0, 1) := by decide +kernel
theorem dX1_valueOf_1 : decode cX1_valueOf 1 = .ok (.iload_n 1, 1) := by decide +kernel
theorem dX1_valueOf_2 : decode cX1_valueOf 2 = .ok (.iload_n 2, 1) := by decide +kernel
theorem dX1_valueOf_3 : decode cX1_valueOf 3 = .ok (.invokevirtual 73, 3) := by decide +kernel
theorem dX1_valueOf_6 : decode cX1_valueOf 6 = .ok (.istore_n 3, 1) := by decide +kernel
theorem dX1_valueOf_7 : decode cX1_valueOf 7 = .ok (.iload_n 3, 1) := by decide +kernel
theorem dX1_valueOf_8 : decode cX1_valueOf 8 = .ok (.iconst (-1), 1) := by decide +kernel
theorem dX1_valueOf_9 : decode cX1_valueOf 9 = .ok (.if_icmp .ne 7, 3) := by decide +kernel
theorem dX1_valueOf_12 : decode cX1_valueOf 12 = .ok (.iconst (-1), 1) := by decide +kernel
theorem dX1_valueOf_13 : decode cX1_valueOf 13 = .ok (.goto 9, 3) := by decide +kernel
theorem dX1_valueOf_16 : decode cX1_valueOf 16 = .ok (.aload_n 0, 1) := by decide +kernel
theorem dX1_valueOf_17 : decode cX1_valueOf 17 = .ok (.getfield 18, 3) := by decide +kernel
theorem dX1_valueOf_20 : decode cX1_valueOf 20 = .ok (.iload_n 3, 1) := by decide +kernel
theorem dX1_valueOf_21 : decode cX1_valueOf 21 = .ok (.iaload, 1) := by decide +kernel
theorem dX1_valueOf_22 : decode cX1_valueOf 22 = .ok (.ireturn, 1) := by decide +kernel
theorem dX1_usersOfFrameOf_0 : decode cX1_usersOfFrameOf 0 = .ok (.aload_n 0, 1) := by decide +kernel
theorem dX1_usersOfFrameOf_1 : decode cX1_usersOfFrameOf 1 = .ok (.iload_n 1, 1) := by decide +kernel
theorem dX1_usersOfFrameOf_2 : decode cX1_usersOfFrameOf 2 = .ok (.iload_n 2, 1) := by decide +kernel
theorem dX1_usersOfFrameOf_3 : decode cX1_usersOfFrameOf 3 = .ok (.invokevirtual 73, 3) := by decide +kernel
theorem dX1_usersOfFrameOf_6 : decode cX1_usersOfFrameOf 6 = .ok (.istore_n 3, 1) := by decide +kernel
theorem dX1_usersOfFrameOf_7 : decode cX1_usersOfFrameOf 7 = .ok (.iload_n 3, 1) := by decide +kernel
theorem dX1_usersOfFrameOf_8 : decode cX1_usersOfFrameOf 8 = .ok (.iconst (-1), 1) := by decide +kernel
theorem dX1_usersOfFrameOf_9 : decode cX1_usersOfFrameOf 9 = .ok (.if_icmp .ne 7, 3) := by decide +kernel
theorem dX1_usersOfFrameOf_12 : decode cX1_usersOfFrameOf 12 = .ok (.iconst (-1), 1) := by decide +kernel
theorem dX1_usersOfFrameOf_13 : decode cX1_usersOfFrameOf 13 = .ok (.goto 9, 3) := by decide +kernel
theorem dX1_usersOfFrameOf_16 : decode cX1_usersOfFrameOf 16 = .ok (.aload_n 0, 1) := by decide +kernel
theorem dX1_usersOfFrameOf_17 : decode cX1_usersOfFrameOf 17 = .ok (.getfield 15, 3) := by decide +kernel
theorem dX1_usersOfFrameOf_20 : decode cX1_usersOfFrameOf 20 = .ok (.iload_n 3, 1) := by decide +kernel
theorem dX1_usersOfFrameOf_21 : decode cX1_usersOfFrameOf 21 = .ok (.iaload, 1) := by decide +kernel
theorem dX1_usersOfFrameOf_22 : decode cX1_usersOfFrameOf 22 = .ok (.ireturn, 1) := by decide +kernel
theorem dX1_userAt_0 : decode cX1_userAt 0 = .ok (.iconst 0, 1) := by decide +kernel
theorem dX1_userAt_1 : decode cX1_userAt 1 = .ok (.istore_n 3, 1) := by decide +kernel
theorem dX1_userAt_2 : decode cX1_userAt 2 = .ok (.iconst 0, 1) := by decide +kernel
theorem dX1_userAt_3 : decode cX1_userAt 3 = .ok (.istore 4, 2) := by decide +kernel
theorem dX1_userAt_5 : decode cX1_userAt 5 = .ok (.iload 4, 2) := by decide +kernel
theorem dX1_userAt_7 : decode cX1_userAt 7 = .ok (.iconst 4, 1) := by decide +kernel
theorem dX1_userAt_8 : decode cX1_userAt 8 = .ok (.if_icmp .ge 54, 3) := by decide +kernel
theorem dX1_userAt_11 : decode cX1_userAt 11 = .ok (.iconst 0, 1) := by decide +kernel
theorem dX1_userAt_12 : decode cX1_userAt 12 = .ok (.istore 5, 2) := by decide +kernel
theorem dX1_userAt_14 : decode cX1_userAt 14 = .ok (.iload 5, 2) := by decide +kernel
theorem dX1_userAt_16 : decode cX1_userAt 16 = .ok (.bipush 16, 2) := by decide +kernel
theorem dX1_userAt_18 : decode cX1_userAt 18 = .ok (.if_icmp .ge 38, 3) := by decide +kernel
theorem dX1_userAt_21 : decode cX1_userAt 21 = .ok (.aload_n 0, 1) := by decide +kernel
theorem dX1_userAt_22 : decode cX1_userAt 22 = .ok (.iload 4, 2) := by decide +kernel
theorem dX1_userAt_24 : decode cX1_userAt 24 = .ok (.iload 5, 2) := by decide +kernel
theorem dX1_userAt_26 : decode cX1_userAt 26 = .ok (.invokevirtual 73, 3) := by decide +kernel
theorem dX1_userAt_29 : decode cX1_userAt 29 = .ok (.iload_n 1, 1) := by decide +kernel
theorem dX1_userAt_30 : decode cX1_userAt 30 = .ok (.if_icmp .ne 20, 3) := by decide +kernel
theorem dX1_userAt_33 : decode cX1_userAt 33 = .ok (.iload_n 3, 1) := by decide +kernel
theorem dX1_userAt_34 : decode cX1_userAt 34 = .ok (.iload_n 2, 1) := by decide +kernel
theorem dX1_userAt_35 : decode cX1_userAt 35 = .ok (.if_icmp .ne 12, 3) := by decide +kernel
theorem dX1_userAt_38 : decode cX1_userAt 38 = .ok (.bipush 100, 2) := by decide +kernel
theorem dX1_userAt_40 : decode cX1_userAt 40 = .ok (.iload 4, 2) := by decide +kernel
theorem dX1_userAt_42 : decode cX1_userAt 42 = .ok (.imul, 1) := by decide +kernel
theorem dX1_userAt_43 : decode cX1_userAt 43 = .ok (.iload 5, 2) := by decide +kernel
theorem dX1_userAt_45 : decode cX1_userAt 45 = .ok (.iadd, 1) := by decide +kernel
theorem dX1_userAt_46 : decode cX1_userAt 46 = .ok (.ireturn, 1) := by decide +kernel
theorem dX1_userAt_47 : decode cX1_userAt 47 = .ok (.iinc 3 1, 3) := by decide +kernel
theorem dX1_userAt_50 : decode cX1_userAt 50 = .ok (.iinc 5 1, 3) := by decide +kernel
theorem dX1_userAt_53 : decode cX1_userAt 53 = .ok (.goto (-39), 3) := by decide +kernel
theorem dX1_userAt_56 : decode cX1_userAt 56 = .ok (.iinc 4 1, 3) := by decide +kernel
theorem dX1_userAt_59 : decode cX1_userAt 59 = .ok (.goto (-54), 3) := by decide +kernel
theorem dX1_userAt_62 : decode cX1_userAt 62 = .ok (.iconst (-1), 1) := by decide +kernel
theorem dX1_userAt_63 : decode cX1_userAt 63 = .ok (.ireturn, 1) := by decide +kernel
theorem dX1_isBig_0 : decode cX1_isBig 0 = .ok (.iload_n 1, 1) := by decide +kernel
theorem dX1_isBig_1 : decode cX1_isBig 1 = .ok (.ifCond .lt 21, 3) := by decide +kernel
theorem dX1_isBig_4 : decode cX1_isBig 4 = .ok (.iload_n 1, 1) := by decide +kernel
theorem dX1_isBig_5 : decode cX1_isBig 5 = .ok (.iconst 4, 1) := by decide +kernel
theorem dX1_isBig_6 : decode cX1_isBig 6 = .ok (.if_icmp .ge 16, 3) := by decide +kernel
theorem dX1_isBig_9 : decode cX1_isBig 9 = .ok (.iload_n 2, 1) := by decide +kernel
theorem dX1_isBig_10 : decode cX1_isBig 10 = .ok (.ifCond .lt 12, 3) := by decide +kernel
theorem dX1_isBig_13 : decode cX1_isBig 13 = .ok (.iload_n 2, 1) := by decide +kernel
theorem dX1_isBig_14 : decode cX1_isBig 14 = .ok (.iconst 4, 1) := by decide +kernel
theorem dX1_isBig_15 : decode cX1_isBig 15 = .ok (.if_icmp .ge 7, 3) := by decide +kernel
theorem dX1_isBig_18 : decode cX1_isBig 18 = .ok (.iconst 1, 1) := by decide +kernel
theorem dX1_isBig_19 : decode cX1_isBig 19 = .ok (.goto 4, 3) := by decide +kernel
theorem dX1_isBig_22 : decode cX1_isBig 22 = .ok (.iconst 0, 1) := by decide +kernel
theorem dX1_isBig_23 : decode cX1_isBig 23 = .ok (.istore_n 3, 1) := by decide +kernel
theorem dX1_isBig_24 : decode cX1_isBig 24 = .ok (.iload_n 3, 1) := by decide +kernel
theorem dX1_isBig_25 : decode cX1_isBig 25 = .ok (.ifCond .eq 23, 3) := by decide +kernel
theorem dX1_isBig_28 : decode cX1_isBig 28 = .ok (.aload_n 0, 1) := by decide +kernel
theorem dX1_isBig_29 : decode cX1_isBig 29 = .ok (.getfield 28, 3) := by decide +kernel
theorem dX1_isBig_32 : decode cX1_isBig 32 = .ok (.iconst 4, 1) := by decide +kernel
theorem dX1_isBig_33 : decode cX1_isBig 33 = .ok (.iload_n 1, 1) := by decide +kernel
theorem dX1_isBig_34 : decode cX1_isBig 34 = .ok (.imul, 1) := by decide +kernel
theorem dX1_isBig_35 : decode cX1_isBig 35 = .ok (.iload_n 2, 1) := by decide +kernel
theorem dX1_isBig_36 : decode cX1_isBig 36 = .ok (.iadd, 1) := by decide +kernel
theorem dX1_isBig_37 : decode cX1_isBig 37 = .ok (.ishr, 1) := by decide +kernel
theorem dX1_isBig_38 : decode cX1_isBig 38 = .ok (.iconst 1, 1) := by decide +kernel
theorem dX1_isBig_39 : decode cX1_isBig 39 = .ok (.iand, 1) := by decide +kernel
theorem dX1_isBig_40 : decode cX1_isBig 40 = .ok (.iconst 1, 1) := by decide +kernel
theorem dX1_isBig_41 : decode cX1_isBig 41 = .ok (.if_icmp .ne 7, 3) := by decide +kernel
theorem dX1_isBig_44 : decode cX1_isBig 44 = .ok (.iconst 1, 1) := by decide +kernel
theorem dX1_isBig_45 : decode cX1_isBig 45 = .ok (.goto 4, 3) := by decide +kernel
theorem dX1_isBig_48 : decode cX1_isBig 48 = .ok (.iconst 0, 1) := by decide +kernel
theorem dX1_isBig_49 : decode cX1_isBig 49 = .ok (.ireturn, 1) := by decide +kernel
theorem dX1_runOf_0 : decode cX1_runOf 0 = .ok (.aload_n 0, 1) := by decide +kernel
theorem dX1_runOf_1 : decode cX1_runOf 1 = .ok (.iload_n 1, 1) := by decide +kernel
theorem dX1_runOf_2 : decode cX1_runOf 2 = .ok (.iload_n 2, 1) := by decide +kernel
theorem dX1_runOf_3 : decode cX1_runOf 3 = .ok (.invokevirtual 77, 3) := by decide +kernel
theorem dX1_runOf_6 : decode cX1_runOf 6 = .ok (.ifCond .eq 16, 3) := by decide +kernel
theorem dX1_runOf_9 : decode cX1_runOf 9 = .ok (.aload_n 0, 1) := by decide +kernel
theorem dX1_runOf_10 : decode cX1_runOf 10 = .ok (.iload_n 1, 1) := by decide +kernel
theorem dX1_runOf_11 : decode cX1_runOf 11 = .ok (.iconst 4, 1) := by decide +kernel
theorem dX1_runOf_12 : decode cX1_runOf 12 = .ok (.iload_n 2, 1) := by decide +kernel
theorem dX1_runOf_13 : decode cX1_runOf 13 = .ok (.imul, 1) := by decide +kernel
theorem dX1_runOf_14 : decode cX1_runOf 14 = .ok (.invokevirtual 73, 3) := by decide +kernel
theorem dX1_runOf_17 : decode cX1_runOf 17 = .ok (.iconst 4, 1) := by decide +kernel
theorem dX1_runOf_18 : decode cX1_runOf 18 = .ok (.idiv, 1) := by decide +kernel
theorem dX1_runOf_19 : decode cX1_runOf 19 = .ok (.goto 4, 3) := by decide +kernel
theorem dX1_runOf_22 : decode cX1_runOf 22 = .ok (.iconst (-1), 1) := by decide +kernel
theorem dX1_runOf_23 : decode cX1_runOf 23 = .ok (.ireturn, 1) := by decide +kernel
theorem dX1_isWidow_0 : decode cX1_isWidow 0 = .ok (.aload_n 0, 1) := by decide +kernel
theorem dX1_isWidow_1 : decode cX1_isWidow 1 = .ok (.iload_n 1, 1) := by decide +kernel
theorem dX1_isWidow_2 : decode cX1_isWidow 2 = .ok (.iload_n 2, 1) := by decide +kernel
theorem dX1_isWidow_3 : decode cX1_isWidow 3 = .ok (.invokevirtual 77, 3) := by decide +kernel
theorem dX1_isWidow_6 : decode cX1_isWidow 6 = .ok (.ifCond .eq 30, 3) := by decide +kernel
theorem dX1_isWidow_9 : decode cX1_isWidow 9 = .ok (.aload_n 0, 1) := by decide +kernel
theorem dX1_isWidow_10 : decode cX1_isWidow 10 = .ok (.iload_n 1, 1) := by decide +kernel
theorem dX1_isWidow_11 : decode cX1_isWidow 11 = .ok (.iload_n 2, 1) := by decide +kernel
theorem dX1_isWidow_12 : decode cX1_isWidow 12 = .ok (.invokevirtual 80, 3) := by decide +kernel
theorem dX1_isWidow_15 : decode cX1_isWidow 15 = .ok (.ifCond .le 21, 3) := by decide +kernel
theorem dX1_isWidow_18 : decode cX1_isWidow 18 = .ok (.aload_n 0, 1) := by decide +kernel
theorem dX1_isWidow_19 : decode cX1_isWidow 19 = .ok (.aload_n 0, 1) := by decide +kernel
theorem dX1_isWidow_20 : decode cX1_isWidow 20 = .ok (.iload_n 1, 1) := by decide +kernel
theorem dX1_isWidow_21 : decode cX1_isWidow 21 = .ok (.iload_n 2, 1) := by decide +kernel
theorem dX1_isWidow_22 : decode cX1_isWidow 22 = .ok (.invokevirtual 83, 3) := by decide +kernel
theorem dX1_isWidow_25 : decode cX1_isWidow 25 = .ok (.invokevirtual 86, 3) := by decide +kernel
theorem dX1_isWidow_28 : decode cX1_isWidow 28 = .ok (.iconst 1, 1) := by decide +kernel
theorem dX1_isWidow_29 : decode cX1_isWidow 29 = .ok (.if_icmp .ne 7, 3) := by decide +kernel
theorem dX1_isWidow_32 : decode cX1_isWidow 32 = .ok (.iconst 1, 1) := by decide +kernel
theorem dX1_isWidow_33 : decode cX1_isWidow 33 = .ok (.goto 4, 3) := by decide +kernel
theorem dX1_isWidow_36 : decode cX1_isWidow 36 = .ok (.iconst 0, 1) := by decide +kernel
theorem dX1_isWidow_37 : decode cX1_isWidow 37 = .ok (.ireturn, 1) := by decide +kernel
theorem dX1_bigGroupsInRun_0 : decode cX1_bigGroupsInRun 0 = .ok (.iconst 0, 1) := by decide +kernel
theorem dX1_bigGroupsInRun_1 : decode cX1_bigGroupsInRun 1 = .ok (.istore_n 2, 1) := by decide +kernel
theorem dX1_bigGroupsInRun_2 : decode cX1_bigGroupsInRun 2 = .ok (.iconst 0, 1) := by decide +kernel
theorem dX1_bigGroupsInRun_3 : decode cX1_bigGroupsInRun 3 = .ok (.istore_n 3, 1) := by decide +kernel
theorem dX1_bigGroupsInRun_4 : decode cX1_bigGroupsInRun 4 = .ok (.iload_n 3, 1) := by decide +kernel
theorem dX1_bigGroupsInRun_5 : decode cX1_bigGroupsInRun 5 = .ok (.iconst 4, 1) := by decide +kernel
theorem dX1_bigGroupsInRun_6 : decode cX1_bigGroupsInRun 6 = .ok (.if_icmp .ge 38, 3) := by decide +kernel
theorem dX1_bigGroupsInRun_9 : decode cX1_bigGroupsInRun 9 = .ok (.iconst 0, 1) := by decide +kernel
theorem dX1_bigGroupsInRun_10 : decode cX1_bigGroupsInRun 10 = .ok (.istore 4, 2) := by decide +kernel
theorem dX1_bigGroupsInRun_12 : decode cX1_bigGroupsInRun 12 = .ok (.iload 4, 2) := by decide +kernel
theorem dX1_bigGroupsInRun_14 : decode cX1_bigGroupsInRun 14 = .ok (.iconst 4, 1) := by decide +kernel
theorem dX1_bigGroupsInRun_15 : decode cX1_bigGroupsInRun 15 = .ok (.if_icmp .ge 23, 3) := by decide +kernel
theorem dX1_bigGroupsInRun_18 : decode cX1_bigGroupsInRun 18 = .ok (.aload_n 0, 1) := by decide +kernel
theorem dX1_bigGroupsInRun_19 : decode cX1_bigGroupsInRun 19 = .ok (.iload_n 3, 1) := by decide +kernel
theorem dX1_bigGroupsInRun_20 : decode cX1_bigGroupsInRun 20 = .ok (.iload 4, 2) := by decide +kernel
theorem dX1_bigGroupsInRun_22 : decode cX1_bigGroupsInRun 22 = .ok (.invokevirtual 83, 3) := by decide +kernel
theorem dX1_bigGroupsInRun_25 : decode cX1_bigGroupsInRun 25 = .ok (.iload_n 1, 1) := by decide +kernel
theorem dX1_bigGroupsInRun_26 : decode cX1_bigGroupsInRun 26 = .ok (.if_icmp .ne 6, 3) := by decide +kernel
theorem dX1_bigGroupsInRun_29 : decode cX1_bigGroupsInRun 29 = .ok (.iinc 2 1, 3) := by decide +kernel
theorem dX1_bigGroupsInRun_32 : decode cX1_bigGroupsInRun 32 = .ok (.iinc 4 1, 3) := by decide +kernel
theorem dX1_bigGroupsInRun_35 : decode cX1_bigGroupsInRun 35 = .ok (.goto (-23), 3) := by decide +kernel
theorem dX1_bigGroupsInRun_38 : decode cX1_bigGroupsInRun 38 = .ok (.iinc 3 1, 3) := by decide +kernel
theorem dX1_bigGroupsInRun_41 : decode cX1_bigGroupsInRun 41 = .ok (.goto (-37), 3) := by decide +kernel
theorem dX1_bigGroupsInRun_44 : decode cX1_bigGroupsInRun 44 = .ok (.iload_n 2, 1) := by decide +kernel
theorem dX1_bigGroupsInRun_45 : decode cX1_bigGroupsInRun 45 = .ok (.ireturn, 1) := by decide +kernel
theorem dX1_pagesWithFrame_0 : decode cX1_pagesWithFrame 0 = .ok (.iconst 0, 1) := by decide +kernel
theorem dX1_pagesWithFrame_1 : decode cX1_pagesWithFrame 1 = .ok (.istore_n 3, 1) := by decide +kernel
theorem dX1_pagesWithFrame_2 : decode cX1_pagesWithFrame 2 = .ok (.iconst 0, 1) := by decide +kernel
theorem dX1_pagesWithFrame_3 : decode cX1_pagesWithFrame 3 = .ok (.istore 4, 2) := by decide +kernel
theorem dX1_pagesWithFrame_5 : decode cX1_pagesWithFrame 5 = .ok (.iload 4, 2) := by decide +kernel
theorem dX1_pagesWithFrame_7 : decode cX1_pagesWithFrame 7 = .ok (.iconst 4, 1) := by decide +kernel
theorem dX1_pagesWithFrame_8 : decode cX1_pagesWithFrame 8 = .ok (.if_icmp .ge 27, 3) := by decide +kernel
theorem dX1_pagesWithFrame_11 : decode cX1_pagesWithFrame 11 = .ok (.aload_n 0, 1) := by decide +kernel
theorem dX1_pagesWithFrame_12 : decode cX1_pagesWithFrame 12 = .ok (.iload_n 1, 1) := by decide +kernel
theorem dX1_pagesWithFrame_13 : decode cX1_pagesWithFrame 13 = .ok (.iconst 4, 1) := by decide +kernel
theorem dX1_pagesWithFrame_14 : decode cX1_pagesWithFrame 14 = .ok (.iload_n 2, 1) := by decide +kernel
theorem dX1_pagesWithFrame_15 : decode cX1_pagesWithFrame 15 = .ok (.imul, 1) := by decide +kernel
theorem dX1_pagesWithFrame_16 : decode cX1_pagesWithFrame 16 = .ok (.iload 4, 2) := by decide +kernel
theorem dX1_pagesWithFrame_18 : decode cX1_pagesWithFrame 18 = .ok (.iadd, 1) := by decide +kernel
theorem dX1_pagesWithFrame_19 : decode cX1_pagesWithFrame 19 = .ok (.invokevirtual 73, 3) := by decide +kernel
theorem dX1_pagesWithFrame_22 : decode cX1_pagesWithFrame 22 = .ok (.iconst (-1), 1) := by decide +kernel
theorem dX1_pagesWithFrame_23 : decode cX1_pagesWithFrame 23 = .ok (.if_icmp .eq 6, 3) := by decide +kernel
theorem dX1_pagesWithFrame_26 : decode cX1_pagesWithFrame 26 = .ok (.iinc 3 1, 3) := by decide +kernel
theorem dX1_pagesWithFrame_29 : decode cX1_pagesWithFrame 29 = .ok (.iinc 4 1, 3) := by decide +kernel
theorem dX1_pagesWithFrame_32 : decode cX1_pagesWithFrame 32 = .ok (.goto (-27), 3) := by decide +kernel
theorem dX1_pagesWithFrame_35 : decode cX1_pagesWithFrame 35 = .ok (.iload_n 3, 1) := by decide +kernel
theorem dX1_pagesWithFrame_36 : decode cX1_pagesWithFrame 36 = .ok (.ireturn, 1) := by decide +kernel
theorem dX1_pagesWithSharedFrame_0 : decode cX1_pagesWithSharedFrame 0 = .ok (.iconst 0, 1) := by decide +kernel
theorem dX1_pagesWithSharedFrame_1 : decode cX1_pagesWithSharedFrame 1 = .ok (.istore_n 3, 1) := by decide +kernel
theorem dX1_pagesWithSharedFrame_2 : decode cX1_pagesWithSharedFrame 2 = .ok (.iconst 0, 1) := by decide +kernel
theorem dX1_pagesWithSharedFrame_3 : decode cX1_pagesWithSharedFrame 3 = .ok (.istore 4, 2) := by decide +kernel
theorem dX1_pagesWithSharedFrame_5 : decode cX1_pagesWithSharedFrame 5 = .ok (.iload 4, 2) := by decide +kernel
theorem dX1_pagesWithSharedFrame_7 : decode cX1_pagesWithSharedFrame 7 = .ok (.iconst 4, 1) := by decide +kernel
theorem dX1_pagesWithSharedFrame_8 : decode cX1_pagesWithSharedFrame 8 = .ok (.if_icmp .ge 30, 3) := by decide +kernel
theorem dX1_pagesWithSharedFrame_11 : decode cX1_pagesWithSharedFrame 11 = .ok (.aload_n 0, 1) := by decide +kernel
theorem dX1_pagesWithSharedFrame_12 : decode cX1_pagesWithSharedFrame 12 = .ok (.aload_n 0, 1) := by decide +kernel
theorem dX1_pagesWithSharedFrame_13 : decode cX1_pagesWithSharedFrame 13 = .ok (.iload_n 1, 1) := by decide +kernel
theorem dX1_pagesWithSharedFrame_14 : decode cX1_pagesWithSharedFrame 14 = .ok (.iconst 4, 1) := by decide +kernel
theorem dX1_pagesWithSharedFrame_15 : decode cX1_pagesWithSharedFrame 15 = .ok (.iload_n 2, 1) := by decide +kernel
theorem dX1_pagesWithSharedFrame_16 : decode cX1_pagesWithSharedFrame 16 = .ok (.imul, 1) := by decide +kernel
theorem dX1_pagesWithSharedFrame_17 : decode cX1_pagesWithSharedFrame 17 = .ok (.iload 4, 2) := by decide +kernel
theorem dX1_pagesWithSharedFrame_19 : decode cX1_pagesWithSharedFrame 19 = .ok (.iadd, 1) := by decide +kernel
theorem dX1_pagesWithSharedFrame_20 : decode cX1_pagesWithSharedFrame 20 = .ok (.invokevirtual 73, 3) := by decide +kernel
theorem dX1_pagesWithSharedFrame_23 : decode cX1_pagesWithSharedFrame 23 = .ok (.invokevirtual 57, 3) := by decide +kernel
theorem dX1_pagesWithSharedFrame_26 : decode cX1_pagesWithSharedFrame 26 = .ok (.ifCond .eq 6, 3) := by decide +kernel
theorem dX1_pagesWithSharedFrame_29 : decode cX1_pagesWithSharedFrame 29 = .ok (.iinc 3 1, 3) := by decide +kernel
theorem dX1_pagesWithSharedFrame_32 : decode cX1_pagesWithSharedFrame 32 = .ok (.iinc 4 1, 3) := by decide +kernel
theorem dX1_pagesWithSharedFrame_35 : decode cX1_pagesWithSharedFrame 35 = .ok (.goto (-30), 3) := by decide +kernel
theorem dX1_pagesWithSharedFrame_38 : decode cX1_pagesWithSharedFrame 38 = .ok (.iload_n 3, 1) := by decide +kernel
theorem dX1_pagesWithSharedFrame_39 : decode cX1_pagesWithSharedFrame 39 = .ok (.ireturn, 1) := by decide +kernel
theorem dX1_pagesWithValueZero_0 : decode cX1_pagesWithValueZero 0 = .ok (.iconst 0, 1) := by decide +kernel
theorem dX1_pagesWithValueZero_1 : decode cX1_pagesWithValueZero 1 = .ok (.istore_n 3, 1) := by decide +kernel
theorem dX1_pagesWithValueZero_2 : decode cX1_pagesWithValueZero 2 = .ok (.iconst 0, 1) := by decide +kernel
theorem dX1_pagesWithValueZero_3 : decode cX1_pagesWithValueZero 3 = .ok (.istore 4, 2) := by decide +kernel
theorem dX1_pagesWithValueZero_5 : decode cX1_pagesWithValueZero 5 = .ok (.iload 4, 2) := by decide +kernel
theorem dX1_pagesWithValueZero_7 : decode cX1_pagesWithValueZero 7 = .ok (.iconst 4, 1) := by decide +kernel
theorem dX1_pagesWithValueZero_8 : decode cX1_pagesWithValueZero 8 = .ok (.if_icmp .ge 26, 3) := by decide +kernel
theorem dX1_pagesWithValueZero_11 : decode cX1_pagesWithValueZero 11 = .ok (.aload_n 0, 1) := by decide +kernel
theorem dX1_pagesWithValueZero_12 : decode cX1_pagesWithValueZero 12 = .ok (.iload_n 1, 1) := by decide +kernel
theorem dX1_pagesWithValueZero_13 : decode cX1_pagesWithValueZero 13 = .ok (.iconst 4, 1) := by decide +kernel
theorem dX1_pagesWithValueZero_14 : decode cX1_pagesWithValueZero 14 = .ok (.iload_n 2, 1) := by decide +kernel
theorem dX1_pagesWithValueZero_15 : decode cX1_pagesWithValueZero 15 = .ok (.imul, 1) := by decide +kernel
theorem dX1_pagesWithValueZero_16 : decode cX1_pagesWithValueZero 16 = .ok (.iload 4, 2) := by decide +kernel
theorem dX1_pagesWithValueZero_18 : decode cX1_pagesWithValueZero 18 = .ok (.iadd, 1) := by decide +kernel
theorem dX1_pagesWithValueZero_19 : decode cX1_pagesWithValueZero 19 = .ok (.invokevirtual 89, 3) := by decide +kernel
theorem dX1_pagesWithValueZero_22 : decode cX1_pagesWithValueZero 22 = .ok (.ifCond .ne 6, 3) := by decide +kernel
theorem dX1_pagesWithValueZero_25 : decode cX1_pagesWithValueZero 25 = .ok (.iinc 3 1, 3) := by decide +kernel
theorem dX1_pagesWithValueZero_28 : decode cX1_pagesWithValueZero 28 = .ok (.iinc 4 1, 3) := by decide +kernel
theorem dX1_pagesWithValueZero_31 : decode cX1_pagesWithValueZero 31 = .ok (.goto (-26), 3) := by decide +kernel
theorem dX1_pagesWithValueZero_34 : decode cX1_pagesWithValueZero 34 = .ok (.iload_n 3, 1) := by decide +kernel
theorem dX1_pagesWithValueZero_35 : decode cX1_pagesWithValueZero 35 = .ok (.ireturn, 1) := by decide +kernel
theorem dX1_isShared_0 : decode cX1_isShared 0 = .ok (.iload_n 1, 1) := by decide +kernel
theorem dX1_isShared_1 : decode cX1_isShared 1 = .ok (.iconst (-1), 1) := by decide +kernel
theorem dX1_isShared_2 : decode cX1_isShared 2 = .ok (.if_icmp .eq 17, 3) := by decide +kernel
theorem dX1_isShared_5 : decode cX1_isShared 5 = .ok (.aload_n 0, 1) := by decide +kernel
theorem dX1_isShared_6 : decode cX1_isShared 6 = .ok (.getfield 15, 3) := by decide +kernel
theorem dX1_isShared_9 : decode cX1_isShared 9 = .ok (.iload_n 1, 1) := by decide +kernel
theorem dX1_isShared_10 : decode cX1_isShared 10 = .ok (.iaload, 1) := by decide +kernel
theorem dX1_isShared_11 : decode cX1_isShared 11 = .ok (.iconst 1, 1) := by decide +kernel
theorem dX1_isShared_12 : decode cX1_isShared 12 = .ok (.if_icmp .le 7, 3) := by decide +kernel
theorem dX1_isShared_15 : decode cX1_isShared 15 = .ok (.iconst 1, 1) := by decide +kernel
theorem dX1_isShared_16 : decode cX1_isShared 16 = .ok (.goto 4, 3) := by decide +kernel
theorem dX1_isShared_19 : decode cX1_isShared 19 = .ok (.iconst 0, 1) := by decide +kernel
theorem dX1_isShared_20 : decode cX1_isShared 20 = .ok (.ireturn, 1) := by decide +kernel
theorem dX1_isRunFree_0 : decode cX1_isRunFree 0 = .ok (.iconst 0, 1) := by decide +kernel
theorem dX1_isRunFree_1 : decode cX1_isRunFree 1 = .ok (.istore_n 2, 1) := by decide +kernel
theorem dX1_isRunFree_2 : decode cX1_isRunFree 2 = .ok (.iload_n 2, 1) := by decide +kernel
theorem dX1_isRunFree_3 : decode cX1_isRunFree 3 = .ok (.iconst 4, 1) := by decide +kernel
theorem dX1_isRunFree_4 : decode cX1_isRunFree 4 = .ok (.if_icmp .ge 24, 3) := by decide +kernel
theorem dX1_isRunFree_7 : decode cX1_isRunFree 7 = .ok (.aload_n 0, 1) := by decide +kernel
theorem dX1_isRunFree_8 : decode cX1_isRunFree 8 = .ok (.getfield 15, 3) := by decide +kernel
theorem dX1_isRunFree_11 : decode cX1_isRunFree 11 = .ok (.iconst 4, 1) := by decide +kernel
theorem dX1_isRunFree_12 : decode cX1_isRunFree 12 = .ok (.iload_n 1, 1) := by decide +kernel
theorem dX1_isRunFree_13 : decode cX1_isRunFree 13 = .ok (.imul, 1) := by decide +kernel
theorem dX1_isRunFree_14 : decode cX1_isRunFree 14 = .ok (.iload_n 2, 1) := by decide +kernel
theorem dX1_isRunFree_15 : decode cX1_isRunFree 15 = .ok (.iadd, 1) := by decide +kernel
theorem dX1_isRunFree_16 : decode cX1_isRunFree 16 = .ok (.iaload, 1) := by decide +kernel
theorem dX1_isRunFree_17 : decode cX1_isRunFree 17 = .ok (.ifCond .le 5, 3) := by decide +kernel
theorem dX1_isRunFree_20 : decode cX1_isRunFree 20 = .ok (.iconst 0, 1) := by decide +kernel
theorem dX1_isRunFree_21 : decode cX1_isRunFree 21 = .ok (.ireturn, 1) := by decide +kernel
theorem dX1_isRunFree_22 : decode cX1_isRunFree 22 = .ok (.iinc 2 1, 3) := by decide +kernel
theorem dX1_isRunFree_25 : decode cX1_isRunFree 25 = .ok (.goto (-23), 3) := by decide +kernel
theorem dX1_isRunFree_28 : decode cX1_isRunFree 28 = .ok (.iconst 1, 1) := by decide +kernel
theorem dX1_isRunFree_29 : decode cX1_isRunFree 29 = .ok (.ireturn, 1) := by decide +kernel
theorem dX1_lowestFreeRun_0 : decode cX1_lowestFreeRun 0 = .ok (.iconst 0, 1) := by decide +kernel
theorem dX1_lowestFreeRun_1 : decode cX1_lowestFreeRun 1 = .ok (.istore_n 1, 1) := by decide +kernel
theorem dX1_lowestFreeRun_2 : decode cX1_lowestFreeRun 2 = .ok (.iload_n 1, 1) := by decide +kernel
theorem dX1_lowestFreeRun_3 : decode cX1_lowestFreeRun 3 = .ok (.bipush 8, 2) := by decide +kernel
theorem dX1_lowestFreeRun_5 : decode cX1_lowestFreeRun 5 = .ok (.if_icmp .ge 19, 3) := by decide +kernel
theorem dX1_lowestFreeRun_8 : decode cX1_lowestFreeRun 8 = .ok (.aload_n 0, 1) := by decide +kernel
theorem dX1_lowestFreeRun_9 : decode cX1_lowestFreeRun 9 = .ok (.iload_n 1, 1) := by decide +kernel
theorem dX1_lowestFreeRun_10 : decode cX1_lowestFreeRun 10 = .ok (.invokevirtual 60, 3) := by decide +kernel
theorem dX1_lowestFreeRun_13 : decode cX1_lowestFreeRun 13 = .ok (.ifCond .eq 5, 3) := by decide +kernel
theorem dX1_lowestFreeRun_16 : decode cX1_lowestFreeRun 16 = .ok (.iload_n 1, 1) := by decide +kernel
theorem dX1_lowestFreeRun_17 : decode cX1_lowestFreeRun 17 = .ok (.ireturn, 1) := by decide +kernel
theorem dX1_lowestFreeRun_18 : decode cX1_lowestFreeRun 18 = .ok (.iinc 1 1, 3) := by decide +kernel
theorem dX1_lowestFreeRun_21 : decode cX1_lowestFreeRun 21 = .ok (.goto (-19), 3) := by decide +kernel
theorem dX1_lowestFreeRun_24 : decode cX1_lowestFreeRun 24 = .ok (.iconst (-1), 1) := by decide +kernel
theorem dX1_lowestFreeRun_25 : decode cX1_lowestFreeRun 25 = .ok (.ireturn, 1) := by decide +kernel
theorem dX1_lowestSingleFrame_0 : decode cX1_lowestSingleFrame 0 = .ok (.iconst (-1), 1) := by decide +kernel
theorem dX1_lowestSingleFrame_1 : decode cX1_lowestSingleFrame 1 = .ok (.istore_n 1, 1) := by decide +kernel
theorem dX1_lowestSingleFrame_2 : decode cX1_lowestSingleFrame 2 = .ok (.iconst 0, 1) := by decide +kernel
theorem dX1_lowestSingleFrame_3 : decode cX1_lowestSingleFrame 3 = .ok (.istore_n 2, 1) := by decide +kernel
theorem dX1_lowestSingleFrame_4 : decode cX1_lowestSingleFrame 4 = .ok (.iload_n 2, 1) := by decide +kernel
theorem dX1_lowestSingleFrame_5 : decode cX1_lowestSingleFrame 5 = .ok (.bipush 32, 2) := by decide +kernel
theorem dX1_lowestSingleFrame_7 : decode cX1_lowestSingleFrame 7 = .ok (.if_icmp .ge 37, 3) := by decide +kernel
theorem dX1_lowestSingleFrame_10 : decode cX1_lowestSingleFrame 10 = .ok (.aload_n 0, 1) := by decide +kernel
theorem dX1_lowestSingleFrame_11 : decode cX1_lowestSingleFrame 11 = .ok (.getfield 15, 3) := by decide +kernel
theorem dX1_lowestSingleFrame_14 : decode cX1_lowestSingleFrame 14 = .ok (.iload_n 2, 1) := by decide +kernel
theorem dX1_lowestSingleFrame_15 : decode cX1_lowestSingleFrame 15 = .ok (.iaload, 1) := by decide +kernel
theorem dX1_lowestSingleFrame_16 : decode cX1_lowestSingleFrame 16 = .ok (.ifCond .ne 22, 3) := by decide +kernel
theorem dX1_lowestSingleFrame_19 : decode cX1_lowestSingleFrame 19 = .ok (.aload_n 0, 1) := by decide +kernel
theorem dX1_lowestSingleFrame_20 : decode cX1_lowestSingleFrame 20 = .ok (.iload_n 2, 1) := by decide +kernel
theorem dX1_lowestSingleFrame_21 : decode cX1_lowestSingleFrame 21 = .ok (.iconst 4, 1) := by decide +kernel
theorem dX1_lowestSingleFrame_22 : decode cX1_lowestSingleFrame 22 = .ok (.idiv, 1) := by decide +kernel
theorem dX1_lowestSingleFrame_23 : decode cX1_lowestSingleFrame 23 = .ok (.invokevirtual 60, 3) := by decide +kernel
theorem dX1_lowestSingleFrame_26 : decode cX1_lowestSingleFrame 26 = .ok (.ifCond .ne 5, 3) := by decide +kernel
theorem dX1_lowestSingleFrame_29 : decode cX1_lowestSingleFrame 29 = .ok (.iload_n 2, 1) := by decide +kernel
theorem dX1_lowestSingleFrame_30 : decode cX1_lowestSingleFrame 30 = .ok (.ireturn, 1) := by decide +kernel
theorem dX1_lowestSingleFrame_31 : decode cX1_lowestSingleFrame 31 = .ok (.iload_n 1, 1) := by decide +kernel
theorem dX1_lowestSingleFrame_32 : decode cX1_lowestSingleFrame 32 = .ok (.iconst (-1), 1) := by decide +kernel
theorem dX1_lowestSingleFrame_33 : decode cX1_lowestSingleFrame 33 = .ok (.if_icmp .ne 5, 3) := by decide +kernel
theorem dX1_lowestSingleFrame_36 : decode cX1_lowestSingleFrame 36 = .ok (.iload_n 2, 1) := by decide +kernel
theorem dX1_lowestSingleFrame_37 : decode cX1_lowestSingleFrame 37 = .ok (.istore_n 1, 1) := by decide +kernel
theorem dX1_lowestSingleFrame_38 : decode cX1_lowestSingleFrame 38 = .ok (.iinc 2 1, 3) := by decide +kernel
theorem dX1_lowestSingleFrame_41 : decode cX1_lowestSingleFrame 41 = .ok (.goto (-37), 3) := by decide +kernel
theorem dX1_lowestSingleFrame_44 : decode cX1_lowestSingleFrame 44 = .ok (.iload_n 1, 1) := by decide +kernel
theorem dX1_lowestSingleFrame_45 : decode cX1_lowestSingleFrame 45 = .ok (.ireturn, 1) := by decide +kernel
theorem dX1_takeFrame_0 : decode cX1_takeFrame 0 = .ok (.aload_n 0, 1) := by decide +kernel
theorem dX1_takeFrame_1 : decode cX1_takeFrame 1 = .ok (.getfield 9, 3) := by decide +kernel
theorem dX1_takeFrame_4 : decode cX1_takeFrame 4 = .ok (.bipush 16, 2) := by decide +kernel
theorem dX1_takeFrame_6 : decode cX1_takeFrame 6 = .ok (.iload_n 1, 1) := by decide +kernel
theorem dX1_takeFrame_7 : decode cX1_takeFrame 7 = .ok (.imul, 1) := by decide +kernel
theorem dX1_takeFrame_8 : decode cX1_takeFrame 8 = .ok (.iload_n 2, 1) := by decide +kernel
theorem dX1_takeFrame_9 : decode cX1_takeFrame 9 = .ok (.iadd, 1) := by decide +kernel
theorem dX1_takeFrame_10 : decode cX1_takeFrame 10 = .ok (.iload_n 3, 1) := by decide +kernel
theorem dX1_takeFrame_11 : decode cX1_takeFrame 11 = .ok (.iastore, 1) := by decide +kernel
theorem dX1_takeFrame_12 : decode cX1_takeFrame 12 = .ok (.aload_n 0, 1) := by decide +kernel
theorem dX1_takeFrame_13 : decode cX1_takeFrame 13 = .ok (.getfield 15, 3) := by decide +kernel
theorem dX1_takeFrame_16 : decode cX1_takeFrame 16 = .ok (.iload_n 3, 1) := by decide +kernel
theorem dX1_takeFrame_17 : decode cX1_takeFrame 17 = .ok (.dup2, 1) := by decide +kernel
theorem dX1_takeFrame_18 : decode cX1_takeFrame 18 = .ok (.iaload, 1) := by decide +kernel
theorem dX1_takeFrame_19 : decode cX1_takeFrame 19 = .ok (.iconst 1, 1) := by decide +kernel
theorem dX1_takeFrame_20 : decode cX1_takeFrame 20 = .ok (.iadd, 1) := by decide +kernel
theorem dX1_takeFrame_21 : decode cX1_takeFrame 21 = .ok (.iastore, 1) := by decide +kernel
theorem dX1_takeFrame_22 : decode cX1_takeFrame 22 = .ok (.return_, 1) := by decide +kernel
theorem dX1_letGo_0 : decode cX1_letGo 0 = .ok (.aload_n 0, 1) := by decide +kernel
theorem dX1_letGo_1 : decode cX1_letGo 1 = .ok (.iload_n 1, 1) := by decide +kernel
theorem dX1_letGo_2 : decode cX1_letGo 2 = .ok (.iload_n 2, 1) := by decide +kernel
theorem dX1_letGo_3 : decode cX1_letGo 3 = .ok (.invokevirtual 73, 3) := by decide +kernel
theorem dX1_letGo_6 : decode cX1_letGo 6 = .ok (.istore_n 3, 1) := by decide +kernel
theorem dX1_letGo_7 : decode cX1_letGo 7 = .ok (.iload_n 3, 1) := by decide +kernel
theorem dX1_letGo_8 : decode cX1_letGo 8 = .ok (.iconst (-1), 1) := by decide +kernel
theorem dX1_letGo_9 : decode cX1_letGo 9 = .ok (.if_icmp .ne 5, 3) := by decide +kernel
theorem dX1_letGo_12 : decode cX1_letGo 12 = .ok (.iconst 0, 1) := by decide +kernel
theorem dX1_letGo_13 : decode cX1_letGo 13 = .ok (.ireturn, 1) := by decide +kernel
theorem dX1_letGo_14 : decode cX1_letGo 14 = .ok (.aload_n 0, 1) := by decide +kernel
theorem dX1_letGo_15 : decode cX1_letGo 15 = .ok (.getfield 9, 3) := by decide +kernel
theorem dX1_letGo_18 : decode cX1_letGo 18 = .ok (.bipush 16, 2) := by decide +kernel
theorem dX1_letGo_20 : decode cX1_letGo 20 = .ok (.iload_n 1, 1) := by decide +kernel
theorem dX1_letGo_21 : decode cX1_letGo 21 = .ok (.imul, 1) := by decide +kernel
theorem dX1_letGo_22 : decode cX1_letGo 22 = .ok (.iload_n 2, 1) := by decide +kernel
theorem dX1_letGo_23 : decode cX1_letGo 23 = .ok (.iadd, 1) := by decide +kernel
theorem dX1_letGo_24 : decode cX1_letGo 24 = .ok (.iconst (-1), 1) := by decide +kernel
theorem dX1_letGo_25 : decode cX1_letGo 25 = .ok (.iastore, 1) := by decide +kernel
theorem dX1_letGo_26 : decode cX1_letGo 26 = .ok (.aload_n 0, 1) := by decide +kernel
theorem dX1_letGo_27 : decode cX1_letGo 27 = .ok (.getfield 15, 3) := by decide +kernel
theorem dX1_letGo_30 : decode cX1_letGo 30 = .ok (.iload_n 3, 1) := by decide +kernel
theorem dX1_letGo_31 : decode cX1_letGo 31 = .ok (.dup2, 1) := by decide +kernel
theorem dX1_letGo_32 : decode cX1_letGo 32 = .ok (.iaload, 1) := by decide +kernel
theorem dX1_letGo_33 : decode cX1_letGo 33 = .ok (.iconst 1, 1) := by decide +kernel
theorem dX1_letGo_34 : decode cX1_letGo 34 = .ok (.isub, 1) := by decide +kernel
theorem dX1_letGo_35 : decode cX1_letGo 35 = .ok (.iastore, 1) := by decide +kernel
theorem dX1_letGo_36 : decode cX1_letGo 36 = .ok (.aload_n 0, 1) := by decide +kernel
theorem dX1_letGo_37 : decode cX1_letGo 37 = .ok (.getfield 15, 3) := by decide +kernel
theorem dX1_letGo_40 : decode cX1_letGo 40 = .ok (.iload_n 3, 1) := by decide +kernel
theorem dX1_letGo_41 : decode cX1_letGo 41 = .ok (.iaload, 1) := by decide +kernel
theorem dX1_letGo_42 : decode cX1_letGo 42 = .ok (.ifCond .ne 7, 3) := by decide +kernel
theorem dX1_letGo_45 : decode cX1_letGo 45 = .ok (.iconst 1, 1) := by decide +kernel
theorem dX1_letGo_46 : decode cX1_letGo 46 = .ok (.goto 4, 3) := by decide +kernel
theorem dX1_letGo_49 : decode cX1_letGo 49 = .ok (.iconst 0, 1) := by decide +kernel
theorem dX1_letGo_50 : decode cX1_letGo 50 = .ok (.ireturn, 1) := by decide +kernel
theorem dX1_becomeBig_0 : decode cX1_becomeBig 0 = .ok (.aload_n 0, 1) := by decide +kernel
theorem dX1_becomeBig_1 : decode cX1_becomeBig 1 = .ok (.dup, 1) := by decide +kernel
theorem dX1_becomeBig_2 : decode cX1_becomeBig 2 = .ok (.getfield 28, 3) := by decide +kernel
theorem dX1_becomeBig_5 : decode cX1_becomeBig 5 = .ok (.iconst 1, 1) := by decide +kernel
theorem dX1_becomeBig_6 : decode cX1_becomeBig 6 = .ok (.iconst 4, 1) := by decide +kernel
theorem dX1_becomeBig_7 : decode cX1_becomeBig 7 = .ok (.iload_n 1, 1) := by decide +kernel
theorem dX1_becomeBig_8 : decode cX1_becomeBig 8 = .ok (.imul, 1) := by decide +kernel
theorem dX1_becomeBig_9 : decode cX1_becomeBig 9 = .ok (.iload_n 2, 1) := by decide +kernel
theorem dX1_becomeBig_10 : decode cX1_becomeBig 10 = .ok (.iadd, 1) := by decide +kernel
theorem dX1_becomeBig_11 : decode cX1_becomeBig 11 = .ok (.ishl, 1) := by decide +kernel
theorem dX1_becomeBig_12 : decode cX1_becomeBig 12 = .ok (.ior, 1) := by decide +kernel
theorem dX1_becomeBig_13 : decode cX1_becomeBig 13 = .ok (.putfield 28, 3) := by decide +kernel
theorem dX1_becomeBig_16 : decode cX1_becomeBig 16 = .ok (.return_, 1) := by decide +kernel
theorem dX1_becomeSmall_0 : decode cX1_becomeSmall 0 = .ok (.aload_n 0, 1) := by decide +kernel
theorem dX1_becomeSmall_1 : decode cX1_becomeSmall 1 = .ok (.dup, 1) := by decide +kernel
theorem dX1_becomeSmall_2 : decode cX1_becomeSmall 2 = .ok (.getfield 28, 3) := by decide +kernel
theorem dX1_becomeSmall_5 : decode cX1_becomeSmall 5 = .ok (.iconst 1, 1) := by decide +kernel
theorem dX1_becomeSmall_6 : decode cX1_becomeSmall 6 = .ok (.iconst 4, 1) := by decide +kernel
theorem dX1_becomeSmall_7 : decode cX1_becomeSmall 7 = .ok (.iload_n 1, 1) := by decide +kernel
theorem dX1_becomeSmall_8 : decode cX1_becomeSmall 8 = .ok (.imul, 1) := by decide +kernel
theorem dX1_becomeSmall_9 : decode cX1_becomeSmall 9 = .ok (.iload_n 2, 1) := by decide +kernel
theorem dX1_becomeSmall_10 : decode cX1_becomeSmall 10 = .ok (.iadd, 1) := by decide +kernel
theorem dX1_becomeSmall_11 : decode cX1_becomeSmall 11 = .ok (.ishl, 1) := by decide +kernel
theorem dX1_becomeSmall_12 : decode cX1_becomeSmall 12 = .ok (.iconst (-1), 1) := by decide +kernel
theorem dX1_becomeSmall_13 : decode cX1_becomeSmall 13 = .ok (.ixor, 1) := by decide +kernel
theorem dX1_becomeSmall_14 : decode cX1_becomeSmall 14 = .ok (.iand, 1) := by decide +kernel
theorem dX1_becomeSmall_15 : decode cX1_becomeSmall 15 = .ok (.putfield 28, 3) := by decide +kernel
theorem dX1_becomeSmall_18 : decode cX1_becomeSmall 18 = .ok (.return_, 1) := by decide +kernel
theorem dX1_becomeTorn_0 : decode cX1_becomeTorn 0 = .ok (.aload_n 0, 1) := by decide +kernel
theorem dX1_becomeTorn_1 : decode cX1_becomeTorn 1 = .ok (.iload_n 1, 1) := by decide +kernel
theorem dX1_becomeTorn_2 : decode cX1_becomeTorn 2 = .ok (.iload_n 2, 1) := by decide +kernel
theorem dX1_becomeTorn_3 : decode cX1_becomeTorn 3 = .ok (.invokevirtual 92, 3) := by decide +kernel
theorem dX1_becomeTorn_6 : decode cX1_becomeTorn 6 = .ok (.aload_n 0, 1) := by decide +kernel
theorem dX1_becomeTorn_7 : decode cX1_becomeTorn 7 = .ok (.dup, 1) := by decide +kernel
theorem dX1_becomeTorn_8 : decode cX1_becomeTorn 8 = .ok (.getfield 41, 3) := by decide +kernel
theorem dX1_becomeTorn_11 : decode cX1_becomeTorn 11 = .ok (.iconst 1, 1) := by decide +kernel
theorem dX1_becomeTorn_12 : decode cX1_becomeTorn 12 = .ok (.iadd, 1) := by decide +kernel
theorem dX1_becomeTorn_13 : decode cX1_becomeTorn 13 = .ok (.putfield 41, 3) := by decide +kernel
theorem dX1_becomeTorn_16 : decode cX1_becomeTorn 16 = .ok (.return_, 1) := by decide +kernel
theorem dX1_outcomeOfWrite_0 : decode cX1_outcomeOfWrite 0 = .ok (.aload_n 0, 1) := by decide +kernel
theorem dX1_outcomeOfWrite_1 : decode cX1_outcomeOfWrite 1 = .ok (.iload_n 1, 1) := by decide +kernel
theorem dX1_outcomeOfWrite_2 : decode cX1_outcomeOfWrite 2 = .ok (.iload_n 2, 1) := by decide +kernel
theorem dX1_outcomeOfWrite_3 : decode cX1_outcomeOfWrite 3 = .ok (.invokevirtual 96, 3) := by decide +kernel
theorem dX1_outcomeOfWrite_6 : decode cX1_outcomeOfWrite 6 = .ok (.ifCond .ne 5, 3) := by decide +kernel
theorem dX1_outcomeOfWrite_9 : decode cX1_outcomeOfWrite 9 = .ok (.iconst (-1), 1) := by decide +kernel
theorem dX1_outcomeOfWrite_10 : decode cX1_outcomeOfWrite 10 = .ok (.ireturn, 1) := by decide +kernel
theorem dX1_outcomeOfWrite_11 : decode cX1_outcomeOfWrite 11 = .ok (.aload_n 0, 1) := by decide +kernel
theorem dX1_outcomeOfWrite_12 : decode cX1_outcomeOfWrite 12 = .ok (.iload_n 1, 1) := by decide +kernel
theorem dX1_outcomeOfWrite_13 : decode cX1_outcomeOfWrite 13 = .ok (.iload_n 2, 1) := by decide +kernel
theorem dX1_outcomeOfWrite_14 : decode cX1_outcomeOfWrite 14 = .ok (.invokevirtual 73, 3) := by decide +kernel
theorem dX1_outcomeOfWrite_17 : decode cX1_outcomeOfWrite 17 = .ok (.istore_n 3, 1) := by decide +kernel
theorem dX1_outcomeOfWrite_18 : decode cX1_outcomeOfWrite 18 = .ok (.iload_n 3, 1) := by decide +kernel
theorem dX1_outcomeOfWrite_19 : decode cX1_outcomeOfWrite 19 = .ok (.iconst (-1), 1) := by decide +kernel
theorem dX1_outcomeOfWrite_20 : decode cX1_outcomeOfWrite 20 = .ok (.if_icmp .eq 13, 3) := by decide +kernel
theorem dX1_outcomeOfWrite_23 : decode cX1_outcomeOfWrite 23 = .ok (.aload_n 0, 1) := by decide +kernel
theorem dX1_outcomeOfWrite_24 : decode cX1_outcomeOfWrite 24 = .ok (.iload_n 3, 1) := by decide +kernel
theorem dX1_outcomeOfWrite_25 : decode cX1_outcomeOfWrite 25 = .ok (.invokevirtual 57, 3) := by decide +kernel
theorem dX1_outcomeOfWrite_28 : decode cX1_outcomeOfWrite 28 = .ok (.ifCond .ne 5, 3) := by decide +kernel
theorem dX1_outcomeOfWrite_31 : decode cX1_outcomeOfWrite 31 = .ok (.iconst 0, 1) := by decide +kernel
theorem dX1_outcomeOfWrite_32 : decode cX1_outcomeOfWrite 32 = .ok (.ireturn, 1) := by decide +kernel
theorem dX1_outcomeOfWrite_33 : decode cX1_outcomeOfWrite 33 = .ok (.aload_n 0, 1) := by decide +kernel
theorem dX1_outcomeOfWrite_34 : decode cX1_outcomeOfWrite 34 = .ok (.invokevirtual 99, 3) := by decide +kernel
theorem dX1_outcomeOfWrite_37 : decode cX1_outcomeOfWrite 37 = .ok (.ifCond .ne 5, 3) := by decide +kernel
theorem dX1_outcomeOfWrite_40 : decode cX1_outcomeOfWrite 40 = .ok (.iconst (-1), 1) := by decide +kernel
theorem dX1_outcomeOfWrite_41 : decode cX1_outcomeOfWrite 41 = .ok (.ireturn, 1) := by decide +kernel
theorem dX1_outcomeOfWrite_42 : decode cX1_outcomeOfWrite 42 = .ok (.iload_n 3, 1) := by decide +kernel
theorem dX1_outcomeOfWrite_43 : decode cX1_outcomeOfWrite 43 = .ok (.iconst (-1), 1) := by decide +kernel
theorem dX1_outcomeOfWrite_44 : decode cX1_outcomeOfWrite 44 = .ok (.if_icmp .ne 5, 3) := by decide +kernel
theorem dX1_outcomeOfWrite_47 : decode cX1_outcomeOfWrite 47 = .ok (.iconst 1, 1) := by decide +kernel
theorem dX1_outcomeOfWrite_48 : decode cX1_outcomeOfWrite 48 = .ok (.ireturn, 1) := by decide +kernel
theorem dX1_outcomeOfWrite_49 : decode cX1_outcomeOfWrite 49 = .ok (.aload_n 0, 1) := by decide +kernel
theorem dX1_outcomeOfWrite_50 : decode cX1_outcomeOfWrite 50 = .ok (.iload_n 1, 1) := by decide +kernel
theorem dX1_outcomeOfWrite_51 : decode cX1_outcomeOfWrite 51 = .ok (.iload_n 2, 1) := by decide +kernel
theorem dX1_outcomeOfWrite_52 : decode cX1_outcomeOfWrite 52 = .ok (.iconst 4, 1) := by decide +kernel
theorem dX1_outcomeOfWrite_53 : decode cX1_outcomeOfWrite 53 = .ok (.idiv, 1) := by decide +kernel
theorem dX1_outcomeOfWrite_54 : decode cX1_outcomeOfWrite 54 = .ok (.invokevirtual 77, 3) := by decide +kernel
theorem dX1_outcomeOfWrite_57 : decode cX1_outcomeOfWrite 57 = .ok (.ifCond .eq 7, 3) := by decide +kernel
theorem dX1_outcomeOfWrite_60 : decode cX1_outcomeOfWrite 60 = .ok (.iconst 3, 1) := by decide +kernel
theorem dX1_outcomeOfWrite_61 : decode cX1_outcomeOfWrite 61 = .ok (.goto 4, 3) := by decide +kernel
theorem dX1_outcomeOfWrite_64 : decode cX1_outcomeOfWrite 64 = .ok (.iconst 2, 1) := by decide +kernel
theorem dX1_outcomeOfWrite_65 : decode cX1_outcomeOfWrite 65 = .ok (.ireturn, 1) := by decide +kernel
theorem dX1_doWrite_0 : decode cX1_doWrite 0 = .ok (.aload_n 0, 1) := by decide +kernel
theorem dX1_doWrite_1 : decode cX1_doWrite 1 = .ok (.iload_n 1, 1) := by decide +kernel
theorem dX1_doWrite_2 : decode cX1_doWrite 2 = .ok (.iload_n 2, 1) := by decide +kernel
theorem dX1_doWrite_3 : decode cX1_doWrite 3 = .ok (.invokevirtual 103, 3) := by decide +kernel
theorem dX1_doWrite_6 : decode cX1_doWrite 6 = .ok (.istore 4, 2) := by decide +kernel
theorem dX1_doWrite_8 : decode cX1_doWrite 8 = .ok (.iload 4, 2) := by decide +kernel
theorem dX1_doWrite_10 : decode cX1_doWrite 10 = .ok (.iconst (-1), 1) := by decide +kernel
theorem dX1_doWrite_11 : decode cX1_doWrite 11 = .ok (.if_icmp .eq 13, 3) := by decide +kernel
theorem dX1_doWrite_14 : decode cX1_doWrite 14 = .ok (.iload_n 3, 1) := by decide +kernel
theorem dX1_doWrite_15 : decode cX1_doWrite 15 = .ok (.ifCond .lt 9, 3) := by decide +kernel
theorem dX1_doWrite_18 : decode cX1_doWrite 18 = .ok (.iload_n 3, 1) := by decide +kernel
theorem dX1_doWrite_19 : decode cX1_doWrite 19 = .ok (.bipush 100, 2) := by decide +kernel
theorem dX1_doWrite_21 : decode cX1_doWrite 21 = .ok (.if_icmp .lt 5, 3) := by decide +kernel
theorem dX1_doWrite_24 : decode cX1_doWrite 24 = .ok (.iconst (-1), 1) := by decide +kernel
theorem dX1_doWrite_25 : decode cX1_doWrite 25 = .ok (.ireturn, 1) := by decide +kernel
theorem dX1_doWrite_26 : decode cX1_doWrite 26 = .ok (.iload 4, 2) := by decide +kernel
theorem dX1_doWrite_28 : decode cX1_doWrite 28 = .ok (.iconst 1, 1) := by decide +kernel
theorem dX1_doWrite_29 : decode cX1_doWrite 29 = .ok (.if_icmp .ne 12, 3) := by decide +kernel
theorem dX1_doWrite_32 : decode cX1_doWrite 32 = .ok (.aload_n 0, 1) := by decide +kernel
theorem dX1_doWrite_33 : decode cX1_doWrite 33 = .ok (.iload_n 1, 1) := by decide +kernel
theorem dX1_doWrite_34 : decode cX1_doWrite 34 = .ok (.iload_n 2, 1) := by decide +kernel
theorem dX1_doWrite_35 : decode cX1_doWrite 35 = .ok (.invokevirtual 106, 3) := by decide +kernel
theorem dX1_doWrite_38 : decode cX1_doWrite 38 = .ok (.goto 14, 3) := by decide +kernel
theorem dX1_doWrite_41 : decode cX1_doWrite 41 = .ok (.iload 4, 2) := by decide +kernel
theorem dX1_doWrite_43 : decode cX1_doWrite 43 = .ok (.ifCond .eq 9, 3) := by decide +kernel
theorem dX1_doWrite_46 : decode cX1_doWrite 46 = .ok (.aload_n 0, 1) := by decide +kernel
theorem dX1_doWrite_47 : decode cX1_doWrite 47 = .ok (.iload_n 1, 1) := by decide +kernel
theorem dX1_doWrite_48 : decode cX1_doWrite 48 = .ok (.iload_n 2, 1) := by decide +kernel
theorem dX1_doWrite_49 : decode cX1_doWrite 49 = .ok (.invokevirtual 109, 3) := by decide +kernel
theorem dX1_doWrite_52 : decode cX1_doWrite 52 = .ok (.aload_n 0, 1) := by decide +kernel
theorem dX1_doWrite_53 : decode cX1_doWrite 53 = .ok (.iload_n 1, 1) := by decide +kernel
theorem dX1_doWrite_54 : decode cX1_doWrite 54 = .ok (.iload_n 2, 1) := by decide +kernel
theorem dX1_doWrite_55 : decode cX1_doWrite 55 = .ok (.invokevirtual 73, 3) := by decide +kernel
theorem dX1_doWrite_58 : decode cX1_doWrite 58 = .ok (.istore 5, 2) := by decide +kernel
theorem dX1_doWrite_60 : decode cX1_doWrite 60 = .ok (.iload 5, 2) := by decide +kernel
theorem dX1_doWrite_62 : decode cX1_doWrite 62 = .ok (.iconst (-1), 1) := by decide +kernel
theorem dX1_doWrite_63 : decode cX1_doWrite 63 = .ok (.if_icmp .eq 11, 3) := by decide +kernel
theorem dX1_doWrite_66 : decode cX1_doWrite 66 = .ok (.aload_n 0, 1) := by decide +kernel
theorem dX1_doWrite_67 : decode cX1_doWrite 67 = .ok (.getfield 18, 3) := by decide +kernel
theorem dX1_doWrite_70 : decode cX1_doWrite 70 = .ok (.iload 5, 2) := by decide +kernel
theorem dX1_doWrite_72 : decode cX1_doWrite 72 = .ok (.iload_n 3, 1) := by decide +kernel
theorem dX1_doWrite_73 : decode cX1_doWrite 73 = .ok (.iastore, 1) := by decide +kernel
theorem dX1_doWrite_74 : decode cX1_doWrite 74 = .ok (.iload 4, 2) := by decide +kernel
theorem dX1_doWrite_76 : decode cX1_doWrite 76 = .ok (.ireturn, 1) := by decide +kernel
theorem dX1_bringIn_0 : decode cX1_bringIn 0 = .ok (.iload_n 2, 1) := by decide +kernel
theorem dX1_bringIn_1 : decode cX1_bringIn 1 = .ok (.iconst 4, 1) := by decide +kernel
theorem dX1_bringIn_2 : decode cX1_bringIn 2 = .ok (.idiv, 1) := by decide +kernel
theorem dX1_bringIn_3 : decode cX1_bringIn 3 = .ok (.istore_n 3, 1) := by decide +kernel
theorem dX1_bringIn_4 : decode cX1_bringIn 4 = .ok (.aload_n 0, 1) := by decide +kernel
theorem dX1_bringIn_5 : decode cX1_bringIn 5 = .ok (.invokevirtual 112, 3) := by decide +kernel
theorem dX1_bringIn_8 : decode cX1_bringIn 8 = .ok (.istore 4, 2) := by decide +kernel
theorem dX1_bringIn_10 : decode cX1_bringIn 10 = .ok (.aload_n 0, 1) := by decide +kernel
theorem dX1_bringIn_11 : decode cX1_bringIn 11 = .ok (.getfield 31, 3) := by decide +kernel
theorem dX1_bringIn_14 : decode cX1_bringIn 14 = .ok (.ifCond .eq 29, 3) := by decide +kernel
theorem dX1_bringIn_17 : decode cX1_bringIn 17 = .ok (.iload 4, 2) := by decide +kernel
theorem dX1_bringIn_19 : decode cX1_bringIn 19 = .ok (.iconst (-1), 1) := by decide +kernel
theorem dX1_bringIn_20 : decode cX1_bringIn 20 = .ok (.if_icmp .eq 23, 3) := by decide +kernel
theorem dX1_bringIn_23 : decode cX1_bringIn 23 = .ok (.aload_n 0, 1) := by decide +kernel
theorem dX1_bringIn_24 : decode cX1_bringIn 24 = .ok (.iload_n 1, 1) := by decide +kernel
theorem dX1_bringIn_25 : decode cX1_bringIn 25 = .ok (.iload_n 3, 1) := by decide +kernel
theorem dX1_bringIn_26 : decode cX1_bringIn 26 = .ok (.invokevirtual 115, 3) := by decide +kernel
theorem dX1_bringIn_29 : decode cX1_bringIn 29 = .ok (.ifCond .ne 14, 3) := by decide +kernel
theorem dX1_bringIn_32 : decode cX1_bringIn 32 = .ok (.aload_n 0, 1) := by decide +kernel
theorem dX1_bringIn_33 : decode cX1_bringIn 33 = .ok (.iload_n 1, 1) := by decide +kernel
theorem dX1_bringIn_34 : decode cX1_bringIn 34 = .ok (.iload_n 3, 1) := by decide +kernel
theorem dX1_bringIn_35 : decode cX1_bringIn 35 = .ok (.iload 4, 2) := by decide +kernel
theorem dX1_bringIn_37 : decode cX1_bringIn 37 = .ok (.invokevirtual 118, 3) := by decide +kernel
theorem dX1_bringIn_40 : decode cX1_bringIn 40 = .ok (.goto 9, 3) := by decide +kernel
theorem dX1_bringIn_43 : decode cX1_bringIn 43 = .ok (.aload_n 0, 1) := by decide +kernel
theorem dX1_bringIn_44 : decode cX1_bringIn 44 = .ok (.iload_n 1, 1) := by decide +kernel
theorem dX1_bringIn_45 : decode cX1_bringIn 45 = .ok (.iload_n 2, 1) := by decide +kernel
theorem dX1_bringIn_46 : decode cX1_bringIn 46 = .ok (.invokevirtual 122, 3) := by decide +kernel
theorem dX1_bringIn_49 : decode cX1_bringIn 49 = .ok (.aload_n 0, 1) := by decide +kernel
theorem dX1_bringIn_50 : decode cX1_bringIn 50 = .ok (.dup, 1) := by decide +kernel
theorem dX1_bringIn_51 : decode cX1_bringIn 51 = .ok (.getfield 38, 3) := by decide +kernel
theorem dX1_bringIn_54 : decode cX1_bringIn 54 = .ok (.iconst 1, 1) := by decide +kernel
theorem dX1_bringIn_55 : decode cX1_bringIn 55 = .ok (.iadd, 1) := by decide +kernel
theorem dX1_bringIn_56 : decode cX1_bringIn 56 = .ok (.putfield 38, 3) := by decide +kernel
theorem dX1_bringIn_59 : decode cX1_bringIn 59 = .ok (.return_, 1) := by decide +kernel
theorem dX1_bringInWhole_0 : decode cX1_bringInWhole 0 = .ok (.iconst 0, 1) := by decide +kernel
theorem dX1_bringInWhole_1 : decode cX1_bringInWhole 1 = .ok (.istore 4, 2) := by decide +kernel
theorem dX1_bringInWhole_3 : decode cX1_bringInWhole 3 = .ok (.iload 4, 2) := by decide +kernel
theorem dX1_bringInWhole_5 : decode cX1_bringInWhole 5 = .ok (.iconst 4, 1) := by decide +kernel
theorem dX1_bringInWhole_6 : decode cX1_bringInWhole 6 = .ok (.if_icmp .ge 38, 3) := by decide +kernel
theorem dX1_bringInWhole_9 : decode cX1_bringInWhole 9 = .ok (.iconst 4, 1) := by decide +kernel
theorem dX1_bringInWhole_10 : decode cX1_bringInWhole 10 = .ok (.iload_n 3, 1) := by decide +kernel
theorem dX1_bringInWhole_11 : decode cX1_bringInWhole 11 = .ok (.imul, 1) := by decide +kernel
theorem dX1_bringInWhole_12 : decode cX1_bringInWhole 12 = .ok (.iload 4, 2) := by decide +kernel
theorem dX1_bringInWhole_14 : decode cX1_bringInWhole 14 = .ok (.iadd, 1) := by decide +kernel
theorem dX1_bringInWhole_15 : decode cX1_bringInWhole 15 = .ok (.istore 5, 2) := by decide +kernel
theorem dX1_bringInWhole_17 : decode cX1_bringInWhole 17 = .ok (.aload_n 0, 1) := by decide +kernel
theorem dX1_bringInWhole_18 : decode cX1_bringInWhole 18 = .ok (.iload_n 1, 1) := by decide +kernel
theorem dX1_bringInWhole_19 : decode cX1_bringInWhole 19 = .ok (.iconst 4, 1) := by decide +kernel
theorem dX1_bringInWhole_20 : decode cX1_bringInWhole 20 = .ok (.iload_n 2, 1) := by decide +kernel
theorem dX1_bringInWhole_21 : decode cX1_bringInWhole 21 = .ok (.imul, 1) := by decide +kernel
theorem dX1_bringInWhole_22 : decode cX1_bringInWhole 22 = .ok (.iload 4, 2) := by decide +kernel
theorem dX1_bringInWhole_24 : decode cX1_bringInWhole 24 = .ok (.iadd, 1) := by decide +kernel
theorem dX1_bringInWhole_25 : decode cX1_bringInWhole 25 = .ok (.iload 5, 2) := by decide +kernel
theorem dX1_bringInWhole_27 : decode cX1_bringInWhole 27 = .ok (.invokevirtual 125, 3) := by decide +kernel
theorem dX1_bringInWhole_30 : decode cX1_bringInWhole 30 = .ok (.aload_n 0, 1) := by decide +kernel
theorem dX1_bringInWhole_31 : decode cX1_bringInWhole 31 = .ok (.getfield 18, 3) := by decide +kernel
theorem dX1_bringInWhole_34 : decode cX1_bringInWhole 34 = .ok (.iload 5, 2) := by decide +kernel
theorem dX1_bringInWhole_36 : decode cX1_bringInWhole 36 = .ok (.iconst 0, 1) := by decide +kernel
theorem dX1_bringInWhole_37 : decode cX1_bringInWhole 37 = .ok (.iastore, 1) := by decide +kernel
theorem dX1_bringInWhole_38 : decode cX1_bringInWhole 38 = .ok (.iinc 4 1, 3) := by decide +kernel
theorem dX1_bringInWhole_41 : decode cX1_bringInWhole 41 = .ok (.goto (-38), 3) := by decide +kernel
theorem dX1_bringInWhole_44 : decode cX1_bringInWhole 44 = .ok (.aload_n 0, 1) := by decide +kernel
theorem dX1_bringInWhole_45 : decode cX1_bringInWhole 45 = .ok (.iload_n 1, 1) := by decide +kernel
theorem dX1_bringInWhole_46 : decode cX1_bringInWhole 46 = .ok (.iload_n 2, 1) := by decide +kernel
theorem dX1_bringInWhole_47 : decode cX1_bringInWhole 47 = .ok (.invokevirtual 128, 3) := by decide +kernel
theorem dX1_bringInWhole_50 : decode cX1_bringInWhole 50 = .ok (.return_, 1) := by decide +kernel
theorem dX1_copyOut_0 : decode cX1_copyOut 0 = .ok (.iload_n 2, 1) := by decide +kernel
theorem dX1_copyOut_1 : decode cX1_copyOut 1 = .ok (.iconst 4, 1) := by decide +kernel
theorem dX1_copyOut_2 : decode cX1_copyOut 2 = .ok (.idiv, 1) := by decide +kernel
theorem dX1_copyOut_3 : decode cX1_copyOut 3 = .ok (.istore_n 3, 1) := by decide +kernel
theorem dX1_copyOut_4 : decode cX1_copyOut 4 = .ok (.aload_n 0, 1) := by decide +kernel
theorem dX1_copyOut_5 : decode cX1_copyOut 5 = .ok (.iload_n 1, 1) := by decide +kernel
theorem dX1_copyOut_6 : decode cX1_copyOut 6 = .ok (.iload_n 3, 1) := by decide +kernel
theorem dX1_copyOut_7 : decode cX1_copyOut 7 = .ok (.invokevirtual 77, 3) := by decide +kernel
theorem dX1_copyOut_10 : decode cX1_copyOut 10 = .ok (.ifCond .eq 9, 3) := by decide +kernel
theorem dX1_copyOut_13 : decode cX1_copyOut 13 = .ok (.aload_n 0, 1) := by decide +kernel
theorem dX1_copyOut_14 : decode cX1_copyOut 14 = .ok (.iload_n 1, 1) := by decide +kernel
theorem dX1_copyOut_15 : decode cX1_copyOut 15 = .ok (.iload_n 3, 1) := by decide +kernel
theorem dX1_copyOut_16 : decode cX1_copyOut 16 = .ok (.invokevirtual 131, 3) := by decide +kernel
theorem dX1_copyOut_19 : decode cX1_copyOut 19 = .ok (.aload_n 0, 1) := by decide +kernel
theorem dX1_copyOut_20 : decode cX1_copyOut 20 = .ok (.iload_n 1, 1) := by decide +kernel
theorem dX1_copyOut_21 : decode cX1_copyOut 21 = .ok (.iload_n 2, 1) := by decide +kernel
theorem dX1_copyOut_22 : decode cX1_copyOut 22 = .ok (.invokevirtual 122, 3) := by decide +kernel
theorem dX1_copyOut_25 : decode cX1_copyOut 25 = .ok (.aload_n 0, 1) := by decide +kernel
theorem dX1_copyOut_26 : decode cX1_copyOut 26 = .ok (.dup, 1) := by decide +kernel
theorem dX1_copyOut_27 : decode cX1_copyOut 27 = .ok (.getfield 35, 3) := by decide +kernel
theorem dX1_copyOut_30 : decode cX1_copyOut 30 = .ok (.iconst 1, 1) := by decide +kernel
theorem dX1_copyOut_31 : decode cX1_copyOut 31 = .ok (.iadd, 1) := by decide +kernel
theorem dX1_copyOut_32 : decode cX1_copyOut 32 = .ok (.putfield 35, 3) := by decide +kernel
theorem dX1_copyOut_35 : decode cX1_copyOut 35 = .ok (.return_, 1) := by decide +kernel
theorem dX1_takeSingleFrame_0 : decode cX1_takeSingleFrame 0 = .ok (.aload_n 0, 1) := by decide +kernel
theorem dX1_takeSingleFrame_1 : decode cX1_takeSingleFrame 1 = .ok (.invokevirtual 134, 3) := by decide +kernel
theorem dX1_takeSingleFrame_4 : decode cX1_takeSingleFrame 4 = .ok (.istore_n 3, 1) := by decide +kernel
theorem dX1_takeSingleFrame_5 : decode cX1_takeSingleFrame 5 = .ok (.iload_n 3, 1) := by decide +kernel
theorem dX1_takeSingleFrame_6 : decode cX1_takeSingleFrame 6 = .ok (.iconst (-1), 1) := by decide +kernel
theorem dX1_takeSingleFrame_7 : decode cX1_takeSingleFrame 7 = .ok (.if_icmp .eq 17, 3) := by decide +kernel
theorem dX1_takeSingleFrame_10 : decode cX1_takeSingleFrame 10 = .ok (.aload_n 0, 1) := by decide +kernel
theorem dX1_takeSingleFrame_11 : decode cX1_takeSingleFrame 11 = .ok (.iload_n 1, 1) := by decide +kernel
theorem dX1_takeSingleFrame_12 : decode cX1_takeSingleFrame 12 = .ok (.iload_n 2, 1) := by decide +kernel
theorem dX1_takeSingleFrame_13 : decode cX1_takeSingleFrame 13 = .ok (.invokevirtual 137, 3) := by decide +kernel
theorem dX1_takeSingleFrame_16 : decode cX1_takeSingleFrame 16 = .ok (.pop, 1) := by decide +kernel
theorem dX1_takeSingleFrame_17 : decode cX1_takeSingleFrame 17 = .ok (.aload_n 0, 1) := by decide +kernel
theorem dX1_takeSingleFrame_18 : decode cX1_takeSingleFrame 18 = .ok (.iload_n 1, 1) := by decide +kernel
theorem dX1_takeSingleFrame_19 : decode cX1_takeSingleFrame 19 = .ok (.iload_n 2, 1) := by decide +kernel
theorem dX1_takeSingleFrame_20 : decode cX1_takeSingleFrame 20 = .ok (.iload_n 3, 1) := by decide +kernel
theorem dX1_takeSingleFrame_21 : decode cX1_takeSingleFrame 21 = .ok (.invokevirtual 125, 3) := by decide +kernel
theorem dX1_takeSingleFrame_24 : decode cX1_takeSingleFrame 24 = .ok (.return_, 1) := by decide +kernel
theorem dX1_lowestUnusedProcess_0 : decode cX1_lowestUnusedProcess 0 = .ok (.iconst 0, 1) := by decide +kernel
theorem dX1_lowestUnusedProcess_1 : decode cX1_lowestUnusedProcess 1 = .ok (.istore_n 1, 1) := by decide +kernel
theorem dX1_lowestUnusedProcess_2 : decode cX1_lowestUnusedProcess 2 = .ok (.iload_n 1, 1) := by decide +kernel
theorem dX1_lowestUnusedProcess_3 : decode cX1_lowestUnusedProcess 3 = .ok (.iconst 4, 1) := by decide +kernel
theorem dX1_lowestUnusedProcess_4 : decode cX1_lowestUnusedProcess 4 = .ok (.if_icmp .ge 19, 3) := by decide +kernel
theorem dX1_lowestUnusedProcess_7 : decode cX1_lowestUnusedProcess 7 = .ok (.aload_n 0, 1) := by decide +kernel
theorem dX1_lowestUnusedProcess_8 : decode cX1_lowestUnusedProcess 8 = .ok (.iload_n 1, 1) := by decide +kernel
theorem dX1_lowestUnusedProcess_9 : decode cX1_lowestUnusedProcess 9 = .ok (.invokevirtual 53, 3) := by decide +kernel
theorem dX1_lowestUnusedProcess_12 : decode cX1_lowestUnusedProcess 12 = .ok (.ifCond .ne 5, 3) := by decide +kernel
theorem dX1_lowestUnusedProcess_15 : decode cX1_lowestUnusedProcess 15 = .ok (.iload_n 1, 1) := by decide +kernel
theorem dX1_lowestUnusedProcess_16 : decode cX1_lowestUnusedProcess 16 = .ok (.ireturn, 1) := by decide +kernel
theorem dX1_lowestUnusedProcess_17 : decode cX1_lowestUnusedProcess 17 = .ok (.iinc 1 1, 3) := by decide +kernel
theorem dX1_lowestUnusedProcess_20 : decode cX1_lowestUnusedProcess 20 = .ok (.goto (-18), 3) := by decide +kernel
theorem dX1_lowestUnusedProcess_23 : decode cX1_lowestUnusedProcess 23 = .ok (.iconst (-1), 1) := by decide +kernel
theorem dX1_lowestUnusedProcess_24 : decode cX1_lowestUnusedProcess 24 = .ok (.ireturn, 1) := by decide +kernel
theorem dX1_canFork_0 : decode cX1_canFork 0 = .ok (.aload_n 0, 1) := by decide +kernel
theorem dX1_canFork_1 : decode cX1_canFork 1 = .ok (.iload_n 1, 1) := by decide +kernel
theorem dX1_canFork_2 : decode cX1_canFork 2 = .ok (.invokevirtual 53, 3) := by decide +kernel
theorem dX1_canFork_5 : decode cX1_canFork 5 = .ok (.ifCond .eq 15, 3) := by decide +kernel
theorem dX1_canFork_8 : decode cX1_canFork 8 = .ok (.aload_n 0, 1) := by decide +kernel
theorem dX1_canFork_9 : decode cX1_canFork 9 = .ok (.invokevirtual 140, 3) := by decide +kernel
theorem dX1_canFork_12 : decode cX1_canFork 12 = .ok (.iconst (-1), 1) := by decide +kernel
theorem dX1_canFork_13 : decode cX1_canFork 13 = .ok (.if_icmp .eq 7, 3) := by decide +kernel
theorem dX1_canFork_16 : decode cX1_canFork 16 = .ok (.iconst 1, 1) := by decide +kernel
theorem dX1_canFork_17 : decode cX1_canFork 17 = .ok (.goto 4, 3) := by decide +kernel
theorem dX1_canFork_20 : decode cX1_canFork 20 = .ok (.iconst 0, 1) := by decide +kernel
theorem dX1_canFork_21 : decode cX1_canFork 21 = .ok (.ireturn, 1) := by decide +kernel
theorem dX1_doFork_0 : decode cX1_doFork 0 = .ok (.aload_n 0, 1) := by decide +kernel
theorem dX1_doFork_1 : decode cX1_doFork 1 = .ok (.invokevirtual 140, 3) := by decide +kernel
theorem dX1_doFork_4 : decode cX1_doFork 4 = .ok (.istore_n 2, 1) := by decide +kernel
theorem dX1_doFork_5 : decode cX1_doFork 5 = .ok (.aload_n 0, 1) := by decide +kernel
theorem dX1_doFork_6 : decode cX1_doFork 6 = .ok (.iload_n 1, 1) := by decide +kernel
theorem dX1_doFork_7 : decode cX1_doFork 7 = .ok (.invokevirtual 53, 3) := by decide +kernel
theorem dX1_doFork_10 : decode cX1_doFork 10 = .ok (.ifCond .eq 8, 3) := by decide +kernel
theorem dX1_doFork_13 : decode cX1_doFork 13 = .ok (.iload_n 2, 1) := by decide +kernel
theorem dX1_doFork_14 : decode cX1_doFork 14 = .ok (.iconst (-1), 1) := by decide +kernel
theorem dX1_doFork_15 : decode cX1_doFork 15 = .ok (.if_icmp .ne 5, 3) := by decide +kernel
theorem dX1_doFork_18 : decode cX1_doFork 18 = .ok (.iconst (-1), 1) := by decide +kernel
theorem dX1_doFork_19 : decode cX1_doFork 19 = .ok (.ireturn, 1) := by decide +kernel
theorem dX1_doFork_20 : decode cX1_doFork 20 = .ok (.aload_n 0, 1) := by decide +kernel
theorem dX1_doFork_21 : decode cX1_doFork 21 = .ok (.dup, 1) := by decide +kernel
theorem dX1_doFork_22 : decode cX1_doFork 22 = .ok (.getfield 24, 3) := by decide +kernel
theorem dX1_doFork_25 : decode cX1_doFork 25 = .ok (.iconst 1, 1) := by decide +kernel
theorem dX1_doFork_26 : decode cX1_doFork 26 = .ok (.iload_n 2, 1) := by decide +kernel
theorem dX1_doFork_27 : decode cX1_doFork 27 = .ok (.ishl, 1) := by decide +kernel
theorem dX1_doFork_28 : decode cX1_doFork 28 = .ok (.ior, 1) := by decide +kernel
theorem dX1_doFork_29 : decode cX1_doFork 29 = .ok (.putfield 24, 3) := by decide +kernel
theorem dX1_doFork_32 : decode cX1_doFork 32 = .ok (.iconst 0, 1) := by decide +kernel
theorem dX1_doFork_33 : decode cX1_doFork 33 = .ok (.istore_n 3, 1) := by decide +kernel
theorem dX1_doFork_34 : decode cX1_doFork 34 = .ok (.iload_n 3, 1) := by decide +kernel
theorem dX1_doFork_35 : decode cX1_doFork 35 = .ok (.bipush 16, 2) := by decide +kernel
theorem dX1_doFork_37 : decode cX1_doFork 37 = .ok (.if_icmp .ge 31, 3) := by decide +kernel
theorem dX1_doFork_40 : decode cX1_doFork 40 = .ok (.aload_n 0, 1) := by decide +kernel
theorem dX1_doFork_41 : decode cX1_doFork 41 = .ok (.iload_n 1, 1) := by decide +kernel
theorem dX1_doFork_42 : decode cX1_doFork 42 = .ok (.iload_n 3, 1) := by decide +kernel
theorem dX1_doFork_43 : decode cX1_doFork 43 = .ok (.invokevirtual 73, 3) := by decide +kernel
theorem dX1_doFork_46 : decode cX1_doFork 46 = .ok (.istore 4, 2) := by decide +kernel
theorem dX1_doFork_48 : decode cX1_doFork 48 = .ok (.iload 4, 2) := by decide +kernel
theorem dX1_doFork_50 : decode cX1_doFork 50 = .ok (.iconst (-1), 1) := by decide +kernel
theorem dX1_doFork_51 : decode cX1_doFork 51 = .ok (.if_icmp .eq 11, 3) := by decide +kernel
theorem dX1_doFork_54 : decode cX1_doFork 54 = .ok (.aload_n 0, 1) := by decide +kernel
theorem dX1_doFork_55 : decode cX1_doFork 55 = .ok (.iload_n 2, 1) := by decide +kernel
theorem dX1_doFork_56 : decode cX1_doFork 56 = .ok (.iload_n 3, 1) := by decide +kernel
theorem dX1_doFork_57 : decode cX1_doFork 57 = .ok (.iload 4, 2) := by decide +kernel
theorem dX1_doFork_59 : decode cX1_doFork 59 = .ok (.invokevirtual 125, 3) := by decide +kernel
theorem dX1_doFork_62 : decode cX1_doFork 62 = .ok (.iinc 3 1, 3) := by decide +kernel
theorem dX1_doFork_65 : decode cX1_doFork 65 = .ok (.goto (-31), 3) := by decide +kernel
theorem dX1_doFork_68 : decode cX1_doFork 68 = .ok (.iconst 0, 1) := by decide +kernel
theorem dX1_doFork_69 : decode cX1_doFork 69 = .ok (.istore_n 3, 1) := by decide +kernel
theorem dX1_doFork_70 : decode cX1_doFork 70 = .ok (.iload_n 3, 1) := by decide +kernel
theorem dX1_doFork_71 : decode cX1_doFork 71 = .ok (.iconst 4, 1) := by decide +kernel
theorem dX1_doFork_72 : decode cX1_doFork 72 = .ok (.if_icmp .ge 24, 3) := by decide +kernel
theorem dX1_doFork_75 : decode cX1_doFork 75 = .ok (.aload_n 0, 1) := by decide +kernel
theorem dX1_doFork_76 : decode cX1_doFork 76 = .ok (.iload_n 1, 1) := by decide +kernel
theorem dX1_doFork_77 : decode cX1_doFork 77 = .ok (.iload_n 3, 1) := by decide +kernel
theorem dX1_doFork_78 : decode cX1_doFork 78 = .ok (.invokevirtual 77, 3) := by decide +kernel
theorem dX1_doFork_81 : decode cX1_doFork 81 = .ok (.ifCond .eq 9, 3) := by decide +kernel
theorem dX1_doFork_84 : decode cX1_doFork 84 = .ok (.aload_n 0, 1) := by decide +kernel
theorem dX1_doFork_85 : decode cX1_doFork 85 = .ok (.iload_n 2, 1) := by decide +kernel
theorem dX1_doFork_86 : decode cX1_doFork 86 = .ok (.iload_n 3, 1) := by decide +kernel
theorem dX1_doFork_87 : decode cX1_doFork 87 = .ok (.invokevirtual 128, 3) := by decide +kernel
theorem dX1_doFork_90 : decode cX1_doFork 90 = .ok (.iinc 3 1, 3) := by decide +kernel
theorem dX1_doFork_93 : decode cX1_doFork 93 = .ok (.goto (-23), 3) := by decide +kernel
theorem dX1_doFork_96 : decode cX1_doFork 96 = .ok (.iload_n 2, 1) := by decide +kernel
theorem dX1_doFork_97 : decode cX1_doFork 97 = .ok (.ireturn, 1) := by decide +kernel
theorem dX1_canExit_0 : decode cX1_canExit 0 = .ok (.aload_n 0, 1) := by decide +kernel
theorem dX1_canExit_1 : decode cX1_canExit 1 = .ok (.iload_n 1, 1) := by decide +kernel
theorem dX1_canExit_2 : decode cX1_canExit 2 = .ok (.invokevirtual 53, 3) := by decide +kernel
theorem dX1_canExit_5 : decode cX1_canExit 5 = .ok (.ifCond .eq 18, 3) := by decide +kernel
theorem dX1_canExit_8 : decode cX1_canExit 8 = .ok (.aload_n 0, 1) := by decide +kernel
theorem dX1_canExit_9 : decode cX1_canExit 9 = .ok (.getfield 24, 3) := by decide +kernel
theorem dX1_canExit_12 : decode cX1_canExit 12 = .ok (.invokestatic 63, 3) := by decide +kernel
theorem dX1_canExit_15 : decode cX1_canExit 15 = .ok (.iconst 1, 1) := by decide +kernel
theorem dX1_canExit_16 : decode cX1_canExit 16 = .ok (.if_icmp .le 7, 3) := by decide +kernel
theorem dX1_canExit_19 : decode cX1_canExit 19 = .ok (.iconst 1, 1) := by decide +kernel
theorem dX1_canExit_20 : decode cX1_canExit 20 = .ok (.goto 4, 3) := by decide +kernel
theorem dX1_canExit_23 : decode cX1_canExit 23 = .ok (.iconst 0, 1) := by decide +kernel
theorem dX1_canExit_24 : decode cX1_canExit 24 = .ok (.ireturn, 1) := by decide +kernel
theorem dX1_doExit_0 : decode cX1_doExit 0 = .ok (.aload_n 0, 1) := by decide +kernel
theorem dX1_doExit_1 : decode cX1_doExit 1 = .ok (.iload_n 1, 1) := by decide +kernel
theorem dX1_doExit_2 : decode cX1_doExit 2 = .ok (.invokevirtual 143, 3) := by decide +kernel
theorem dX1_doExit_5 : decode cX1_doExit 5 = .ok (.ifCond .ne 5, 3) := by decide +kernel
theorem dX1_doExit_8 : decode cX1_doExit 8 = .ok (.iconst (-1), 1) := by decide +kernel
theorem dX1_doExit_9 : decode cX1_doExit 9 = .ok (.ireturn, 1) := by decide +kernel
theorem dX1_doExit_10 : decode cX1_doExit 10 = .ok (.iconst 0, 1) := by decide +kernel
theorem dX1_doExit_11 : decode cX1_doExit 11 = .ok (.istore_n 2, 1) := by decide +kernel
theorem dX1_doExit_12 : decode cX1_doExit 12 = .ok (.iconst 0, 1) := by decide +kernel
theorem dX1_doExit_13 : decode cX1_doExit 13 = .ok (.istore_n 3, 1) := by decide +kernel
theorem dX1_doExit_14 : decode cX1_doExit 14 = .ok (.iload_n 3, 1) := by decide +kernel
theorem dX1_doExit_15 : decode cX1_doExit 15 = .ok (.bipush 16, 2) := by decide +kernel
theorem dX1_doExit_17 : decode cX1_doExit 17 = .ok (.if_icmp .ge 18, 3) := by decide +kernel
theorem dX1_doExit_20 : decode cX1_doExit 20 = .ok (.iload_n 2, 1) := by decide +kernel
theorem dX1_doExit_21 : decode cX1_doExit 21 = .ok (.aload_n 0, 1) := by decide +kernel
theorem dX1_doExit_22 : decode cX1_doExit 22 = .ok (.iload_n 1, 1) := by decide +kernel
theorem dX1_doExit_23 : decode cX1_doExit 23 = .ok (.iload_n 3, 1) := by decide +kernel
theorem dX1_doExit_24 : decode cX1_doExit 24 = .ok (.invokevirtual 137, 3) := by decide +kernel
theorem dX1_doExit_27 : decode cX1_doExit 27 = .ok (.iadd, 1) := by decide +kernel
theorem dX1_doExit_28 : decode cX1_doExit 28 = .ok (.istore_n 2, 1) := by decide +kernel
theorem dX1_doExit_29 : decode cX1_doExit 29 = .ok (.iinc 3 1, 3) := by decide +kernel
theorem dX1_doExit_32 : decode cX1_doExit 32 = .ok (.goto (-18), 3) := by decide +kernel
theorem dX1_doExit_35 : decode cX1_doExit 35 = .ok (.iconst 0, 1) := by decide +kernel
theorem dX1_doExit_36 : decode cX1_doExit 36 = .ok (.istore_n 3, 1) := by decide +kernel
theorem dX1_doExit_37 : decode cX1_doExit 37 = .ok (.iload_n 3, 1) := by decide +kernel
theorem dX1_doExit_38 : decode cX1_doExit 38 = .ok (.iconst 4, 1) := by decide +kernel
theorem dX1_doExit_39 : decode cX1_doExit 39 = .ok (.if_icmp .ge 15, 3) := by decide +kernel
theorem dX1_doExit_42 : decode cX1_doExit 42 = .ok (.aload_n 0, 1) := by decide +kernel
theorem dX1_doExit_43 : decode cX1_doExit 43 = .ok (.iload_n 1, 1) := by decide +kernel
theorem dX1_doExit_44 : decode cX1_doExit 44 = .ok (.iload_n 3, 1) := by decide +kernel
theorem dX1_doExit_45 : decode cX1_doExit 45 = .ok (.invokevirtual 92, 3) := by decide +kernel
theorem dX1_doExit_48 : decode cX1_doExit 48 = .ok (.iinc 3 1, 3) := by decide +kernel
theorem dX1_doExit_51 : decode cX1_doExit 51 = .ok (.goto (-14), 3) := by decide +kernel
theorem dX1_doExit_54 : decode cX1_doExit 54 = .ok (.aload_n 0, 1) := by decide +kernel
theorem dX1_doExit_55 : decode cX1_doExit 55 = .ok (.dup, 1) := by decide +kernel
theorem dX1_doExit_56 : decode cX1_doExit 56 = .ok (.getfield 24, 3) := by decide +kernel
theorem dX1_doExit_59 : decode cX1_doExit 59 = .ok (.iconst 1, 1) := by decide +kernel
theorem dX1_doExit_60 : decode cX1_doExit 60 = .ok (.iload_n 1, 1) := by decide +kernel
theorem dX1_doExit_61 : decode cX1_doExit 61 = .ok (.ishl, 1) := by decide +kernel
theorem dX1_doExit_62 : decode cX1_doExit 62 = .ok (.iconst (-1), 1) := by decide +kernel
theorem dX1_doExit_63 : decode cX1_doExit 63 = .ok (.ixor, 1) := by decide +kernel
theorem dX1_doExit_64 : decode cX1_doExit 64 = .ok (.iand, 1) := by decide +kernel
theorem dX1_doExit_65 : decode cX1_doExit 65 = .ok (.putfield 24, 3) := by decide +kernel
theorem dX1_doExit_68 : decode cX1_doExit 68 = .ok (.iload_n 2, 1) := by decide +kernel
theorem dX1_doExit_69 : decode cX1_doExit 69 = .ok (.ireturn, 1) := by decide +kernel
theorem dX1_obstacleToMarriage_0 : decode cX1_obstacleToMarriage 0 = .ok (.aload_n 0, 1) := by decide +kernel
theorem dX1_obstacleToMarriage_1 : decode cX1_obstacleToMarriage 1 = .ok (.iload_n 1, 1) := by decide +kernel
theorem dX1_obstacleToMarriage_2 : decode cX1_obstacleToMarriage 2 = .ok (.iload_n 2, 1) := by decide +kernel
theorem dX1_obstacleToMarriage_3 : decode cX1_obstacleToMarriage 3 = .ok (.invokevirtual 77, 3) := by decide +kernel
theorem dX1_obstacleToMarriage_6 : decode cX1_obstacleToMarriage 6 = .ok (.ifCond .eq 5, 3) := by decide +kernel
theorem dX1_obstacleToMarriage_9 : decode cX1_obstacleToMarriage 9 = .ok (.iconst 1, 1) := by decide +kernel
theorem dX1_obstacleToMarriage_10 : decode cX1_obstacleToMarriage 10 = .ok (.ireturn, 1) := by decide +kernel
theorem dX1_obstacleToMarriage_11 : decode cX1_obstacleToMarriage 11 = .ok (.aload_n 0, 1) := by decide +kernel
theorem dX1_obstacleToMarriage_12 : decode cX1_obstacleToMarriage 12 = .ok (.iload_n 1, 1) := by decide +kernel
theorem dX1_obstacleToMarriage_13 : decode cX1_obstacleToMarriage 13 = .ok (.iload_n 2, 1) := by decide +kernel
theorem dX1_obstacleToMarriage_14 : decode cX1_obstacleToMarriage 14 = .ok (.invokevirtual 115, 3) := by decide +kernel
theorem dX1_obstacleToMarriage_17 : decode cX1_obstacleToMarriage 17 = .ok (.iconst 4, 1) := by decide +kernel
theorem dX1_obstacleToMarriage_18 : decode cX1_obstacleToMarriage 18 = .ok (.if_icmp .ge 5, 3) := by decide +kernel
theorem dX1_obstacleToMarriage_21 : decode cX1_obstacleToMarriage 21 = .ok (.iconst 2, 1) := by decide +kernel
theorem dX1_obstacleToMarriage_22 : decode cX1_obstacleToMarriage 22 = .ok (.ireturn, 1) := by decide +kernel
theorem dX1_obstacleToMarriage_23 : decode cX1_obstacleToMarriage 23 = .ok (.aload_n 0, 1) := by decide +kernel
theorem dX1_obstacleToMarriage_24 : decode cX1_obstacleToMarriage 24 = .ok (.iload_n 1, 1) := by decide +kernel
theorem dX1_obstacleToMarriage_25 : decode cX1_obstacleToMarriage 25 = .ok (.iload_n 2, 1) := by decide +kernel
theorem dX1_obstacleToMarriage_26 : decode cX1_obstacleToMarriage 26 = .ok (.invokevirtual 80, 3) := by decide +kernel
theorem dX1_obstacleToMarriage_29 : decode cX1_obstacleToMarriage 29 = .ok (.ifCond .le 5, 3) := by decide +kernel
theorem dX1_obstacleToMarriage_32 : decode cX1_obstacleToMarriage 32 = .ok (.iconst 3, 1) := by decide +kernel
theorem dX1_obstacleToMarriage_33 : decode cX1_obstacleToMarriage 33 = .ok (.ireturn, 1) := by decide +kernel
theorem dX1_obstacleToMarriage_34 : decode cX1_obstacleToMarriage 34 = .ok (.aload_n 0, 1) := by decide +kernel
theorem dX1_obstacleToMarriage_35 : decode cX1_obstacleToMarriage 35 = .ok (.iload_n 1, 1) := by decide +kernel
theorem dX1_obstacleToMarriage_36 : decode cX1_obstacleToMarriage 36 = .ok (.iload_n 2, 1) := by decide +kernel
theorem dX1_obstacleToMarriage_37 : decode cX1_obstacleToMarriage 37 = .ok (.invokevirtual 146, 3) := by decide +kernel
theorem dX1_obstacleToMarriage_40 : decode cX1_obstacleToMarriage 40 = .ok (.ifCond .ne 11, 3) := by decide +kernel
theorem dX1_obstacleToMarriage_43 : decode cX1_obstacleToMarriage 43 = .ok (.aload_n 0, 1) := by decide +kernel
theorem dX1_obstacleToMarriage_44 : decode cX1_obstacleToMarriage 44 = .ok (.invokevirtual 112, 3) := by decide +kernel
theorem dX1_obstacleToMarriage_47 : decode cX1_obstacleToMarriage 47 = .ok (.iconst (-1), 1) := by decide +kernel
theorem dX1_obstacleToMarriage_48 : decode cX1_obstacleToMarriage 48 = .ok (.if_icmp .eq 7, 3) := by decide +kernel
theorem dX1_obstacleToMarriage_51 : decode cX1_obstacleToMarriage 51 = .ok (.iconst 0, 1) := by decide +kernel
theorem dX1_obstacleToMarriage_52 : decode cX1_obstacleToMarriage 52 = .ok (.goto 4, 3) := by decide +kernel
theorem dX1_obstacleToMarriage_55 : decode cX1_obstacleToMarriage 55 = .ok (.iconst 4, 1) := by decide +kernel
theorem dX1_obstacleToMarriage_56 : decode cX1_obstacleToMarriage 56 = .ok (.ireturn, 1) := by decide +kernel
theorem dX1_isInPlace_0 : decode cX1_isInPlace 0 = .ok (.aload_n 0, 1) := by decide +kernel
theorem dX1_isInPlace_1 : decode cX1_isInPlace 1 = .ok (.iload_n 1, 1) := by decide +kernel
theorem dX1_isInPlace_2 : decode cX1_isInPlace 2 = .ok (.iconst 4, 1) := by decide +kernel
theorem dX1_isInPlace_3 : decode cX1_isInPlace 3 = .ok (.iload_n 2, 1) := by decide +kernel
theorem dX1_isInPlace_4 : decode cX1_isInPlace 4 = .ok (.imul, 1) := by decide +kernel
theorem dX1_isInPlace_5 : decode cX1_isInPlace 5 = .ok (.invokevirtual 73, 3) := by decide +kernel
theorem dX1_isInPlace_8 : decode cX1_isInPlace 8 = .ok (.istore_n 3, 1) := by decide +kernel
theorem dX1_isInPlace_9 : decode cX1_isInPlace 9 = .ok (.iload_n 3, 1) := by decide +kernel
theorem dX1_isInPlace_10 : decode cX1_isInPlace 10 = .ok (.iconst (-1), 1) := by decide +kernel
theorem dX1_isInPlace_11 : decode cX1_isInPlace 11 = .ok (.if_icmp .eq 9, 3) := by decide +kernel
theorem dX1_isInPlace_14 : decode cX1_isInPlace 14 = .ok (.iload_n 3, 1) := by decide +kernel
theorem dX1_isInPlace_15 : decode cX1_isInPlace 15 = .ok (.iconst 4, 1) := by decide +kernel
theorem dX1_isInPlace_16 : decode cX1_isInPlace 16 = .ok (.irem, 1) := by decide +kernel
theorem dX1_isInPlace_17 : decode cX1_isInPlace 17 = .ok (.ifCond .eq 5, 3) := by decide +kernel
theorem dX1_isInPlace_20 : decode cX1_isInPlace 20 = .ok (.iconst 0, 1) := by decide +kernel
theorem dX1_isInPlace_21 : decode cX1_isInPlace 21 = .ok (.ireturn, 1) := by decide +kernel
theorem dX1_isInPlace_22 : decode cX1_isInPlace 22 = .ok (.iconst 1, 1) := by decide +kernel
theorem dX1_isInPlace_23 : decode cX1_isInPlace 23 = .ok (.istore 4, 2) := by decide +kernel
theorem dX1_isInPlace_25 : decode cX1_isInPlace 25 = .ok (.iload 4, 2) := by decide +kernel
theorem dX1_isInPlace_27 : decode cX1_isInPlace 27 = .ok (.iconst 4, 1) := by decide +kernel
theorem dX1_isInPlace_28 : decode cX1_isInPlace 28 = .ok (.if_icmp .ge 29, 3) := by decide +kernel
theorem dX1_isInPlace_31 : decode cX1_isInPlace 31 = .ok (.aload_n 0, 1) := by decide +kernel
theorem dX1_isInPlace_32 : decode cX1_isInPlace 32 = .ok (.iload_n 1, 1) := by decide +kernel
theorem dX1_isInPlace_33 : decode cX1_isInPlace 33 = .ok (.iconst 4, 1) := by decide +kernel
theorem dX1_isInPlace_34 : decode cX1_isInPlace 34 = .ok (.iload_n 2, 1) := by decide +kernel
theorem dX1_isInPlace_35 : decode cX1_isInPlace 35 = .ok (.imul, 1) := by decide +kernel
theorem dX1_isInPlace_36 : decode cX1_isInPlace 36 = .ok (.iload 4, 2) := by decide +kernel
theorem dX1_isInPlace_38 : decode cX1_isInPlace 38 = .ok (.iadd, 1) := by decide +kernel
theorem dX1_isInPlace_39 : decode cX1_isInPlace 39 = .ok (.invokevirtual 73, 3) := by decide +kernel
theorem dX1_isInPlace_42 : decode cX1_isInPlace 42 = .ok (.iload_n 3, 1) := by decide +kernel
theorem dX1_isInPlace_43 : decode cX1_isInPlace 43 = .ok (.iload 4, 2) := by decide +kernel
theorem dX1_isInPlace_45 : decode cX1_isInPlace 45 = .ok (.iadd, 1) := by decide +kernel
theorem dX1_isInPlace_46 : decode cX1_isInPlace 46 = .ok (.if_icmp .eq 5, 3) := by decide +kernel
theorem dX1_isInPlace_49 : decode cX1_isInPlace 49 = .ok (.iconst 0, 1) := by decide +kernel
theorem dX1_isInPlace_50 : decode cX1_isInPlace 50 = .ok (.ireturn, 1) := by decide +kernel
theorem dX1_isInPlace_51 : decode cX1_isInPlace 51 = .ok (.iinc 4 1, 3) := by decide +kernel
theorem dX1_isInPlace_54 : decode cX1_isInPlace 54 = .ok (.goto (-29), 3) := by decide +kernel
theorem dX1_isInPlace_57 : decode cX1_isInPlace 57 = .ok (.iconst 1, 1) := by decide +kernel
theorem dX1_isInPlace_58 : decode cX1_isInPlace 58 = .ok (.ireturn, 1) := by decide +kernel
theorem dX1_doMarry_0 : decode cX1_doMarry 0 = .ok (.aload_n 0, 1) := by decide +kernel
theorem dX1_doMarry_1 : decode cX1_doMarry 1 = .ok (.iload_n 1, 1) := by decide +kernel
theorem dX1_doMarry_2 : decode cX1_doMarry 2 = .ok (.iload_n 2, 1) := by decide +kernel
theorem dX1_doMarry_3 : decode cX1_doMarry 3 = .ok (.invokevirtual 149, 3) := by decide +kernel
theorem dX1_doMarry_6 : decode cX1_doMarry 6 = .ok (.ifCond .eq 12, 3) := by decide +kernel
theorem dX1_doMarry_9 : decode cX1_doMarry 9 = .ok (.aload_n 0, 1) := by decide +kernel
theorem dX1_doMarry_10 : decode cX1_doMarry 10 = .ok (.iload_n 1, 1) := by decide +kernel
theorem dX1_doMarry_11 : decode cX1_doMarry 11 = .ok (.iload_n 2, 1) := by decide +kernel
theorem dX1_doMarry_12 : decode cX1_doMarry 12 = .ok (.invokevirtual 152, 3) := by decide +kernel
theorem dX1_doMarry_15 : decode cX1_doMarry 15 = .ok (.ifCond .eq 5, 3) := by decide +kernel
theorem dX1_doMarry_18 : decode cX1_doMarry 18 = .ok (.iconst (-1), 1) := by decide +kernel
theorem dX1_doMarry_19 : decode cX1_doMarry 19 = .ok (.ireturn, 1) := by decide +kernel
theorem dX1_doMarry_20 : decode cX1_doMarry 20 = .ok (.aload_n 0, 1) := by decide +kernel
theorem dX1_doMarry_21 : decode cX1_doMarry 21 = .ok (.iload_n 1, 1) := by decide +kernel
theorem dX1_doMarry_22 : decode cX1_doMarry 22 = .ok (.iload_n 2, 1) := by decide +kernel
theorem dX1_doMarry_23 : decode cX1_doMarry 23 = .ok (.invokevirtual 146, 3) := by decide +kernel
theorem dX1_doMarry_26 : decode cX1_doMarry 26 = .ok (.ifCond .eq 7, 3) := by decide +kernel
theorem dX1_doMarry_29 : decode cX1_doMarry 29 = .ok (.iconst 0, 1) := by decide +kernel
theorem dX1_doMarry_30 : decode cX1_doMarry 30 = .ok (.goto 13, 3) := by decide +kernel
theorem dX1_doMarry_33 : decode cX1_doMarry 33 = .ok (.aload_n 0, 1) := by decide +kernel
theorem dX1_doMarry_34 : decode cX1_doMarry 34 = .ok (.iload_n 1, 1) := by decide +kernel
theorem dX1_doMarry_35 : decode cX1_doMarry 35 = .ok (.iload_n 2, 1) := by decide +kernel
theorem dX1_doMarry_36 : decode cX1_doMarry 36 = .ok (.aload_n 0, 1) := by decide +kernel
theorem dX1_doMarry_37 : decode cX1_doMarry 37 = .ok (.invokevirtual 112, 3) := by decide +kernel
theorem dX1_doMarry_40 : decode cX1_doMarry 40 = .ok (.invokevirtual 155, 3) := by decide +kernel
theorem dX1_doMarry_43 : decode cX1_doMarry 43 = .ok (.istore_n 3, 1) := by decide +kernel
theorem dX1_doMarry_44 : decode cX1_doMarry 44 = .ok (.aload_n 0, 1) := by decide +kernel
theorem dX1_doMarry_45 : decode cX1_doMarry 45 = .ok (.iload_n 1, 1) := by decide +kernel
theorem dX1_doMarry_46 : decode cX1_doMarry 46 = .ok (.iload_n 2, 1) := by decide +kernel
theorem dX1_doMarry_47 : decode cX1_doMarry 47 = .ok (.invokevirtual 128, 3) := by decide +kernel
theorem dX1_doMarry_50 : decode cX1_doMarry 50 = .ok (.aload_n 0, 1) := by decide +kernel
theorem dX1_doMarry_51 : decode cX1_doMarry 51 = .ok (.dup, 1) := by decide +kernel
theorem dX1_doMarry_52 : decode cX1_doMarry 52 = .ok (.getfield 35, 3) := by decide +kernel
theorem dX1_doMarry_55 : decode cX1_doMarry 55 = .ok (.iload_n 3, 1) := by decide +kernel
theorem dX1_doMarry_56 : decode cX1_doMarry 56 = .ok (.iadd, 1) := by decide +kernel
theorem dX1_doMarry_57 : decode cX1_doMarry 57 = .ok (.putfield 35, 3) := by decide +kernel
theorem dX1_doMarry_60 : decode cX1_doMarry 60 = .ok (.iload_n 3, 1) := by decide +kernel
theorem dX1_doMarry_61 : decode cX1_doMarry 61 = .ok (.ireturn, 1) := by decide +kernel
theorem dX1_moveTo_0 : decode cX1_moveTo 0 = .ok (.iload_n 3, 1) := by decide +kernel
theorem dX1_moveTo_1 : decode cX1_moveTo 1 = .ok (.iconst (-1), 1) := by decide +kernel
theorem dX1_moveTo_2 : decode cX1_moveTo 2 = .ok (.if_icmp .ne 5, 3) := by decide +kernel
theorem dX1_moveTo_5 : decode cX1_moveTo 5 = .ok (.iconst 0, 1) := by decide +kernel
theorem dX1_moveTo_6 : decode cX1_moveTo 6 = .ok (.ireturn, 1) := by decide +kernel
theorem dX1_moveTo_7 : decode cX1_moveTo 7 = .ok (.iconst 0, 1) := by decide +kernel
theorem dX1_moveTo_8 : decode cX1_moveTo 8 = .ok (.istore 4, 2) := by decide +kernel
theorem dX1_moveTo_10 : decode cX1_moveTo 10 = .ok (.iload 4, 2) := by decide +kernel
theorem dX1_moveTo_12 : decode cX1_moveTo 12 = .ok (.iconst 4, 1) := by decide +kernel
theorem dX1_moveTo_13 : decode cX1_moveTo 13 = .ok (.if_icmp .ge 56, 3) := by decide +kernel
theorem dX1_moveTo_16 : decode cX1_moveTo 16 = .ok (.iconst 4, 1) := by decide +kernel
theorem dX1_moveTo_17 : decode cX1_moveTo 17 = .ok (.iload_n 2, 1) := by decide +kernel
theorem dX1_moveTo_18 : decode cX1_moveTo 18 = .ok (.imul, 1) := by decide +kernel
theorem dX1_moveTo_19 : decode cX1_moveTo 19 = .ok (.iload 4, 2) := by decide +kernel
theorem dX1_moveTo_21 : decode cX1_moveTo 21 = .ok (.iadd, 1) := by decide +kernel
theorem dX1_moveTo_22 : decode cX1_moveTo 22 = .ok (.istore 5, 2) := by decide +kernel
theorem dX1_moveTo_24 : decode cX1_moveTo 24 = .ok (.iconst 4, 1) := by decide +kernel
theorem dX1_moveTo_25 : decode cX1_moveTo 25 = .ok (.iload_n 3, 1) := by decide +kernel
theorem dX1_moveTo_26 : decode cX1_moveTo 26 = .ok (.imul, 1) := by decide +kernel
theorem dX1_moveTo_27 : decode cX1_moveTo 27 = .ok (.iload 4, 2) := by decide +kernel
theorem dX1_moveTo_29 : decode cX1_moveTo 29 = .ok (.iadd, 1) := by decide +kernel
theorem dX1_moveTo_30 : decode cX1_moveTo 30 = .ok (.istore 6, 2) := by decide +kernel
theorem dX1_moveTo_32 : decode cX1_moveTo 32 = .ok (.aload_n 0, 1) := by decide +kernel
theorem dX1_moveTo_33 : decode cX1_moveTo 33 = .ok (.getfield 18, 3) := by decide +kernel
theorem dX1_moveTo_36 : decode cX1_moveTo 36 = .ok (.iload 6, 2) := by decide +kernel
theorem dX1_moveTo_38 : decode cX1_moveTo 38 = .ok (.aload_n 0, 1) := by decide +kernel
theorem dX1_moveTo_39 : decode cX1_moveTo 39 = .ok (.iload_n 1, 1) := by decide +kernel
theorem dX1_moveTo_40 : decode cX1_moveTo 40 = .ok (.iload 5, 2) := by decide +kernel
theorem dX1_moveTo_42 : decode cX1_moveTo 42 = .ok (.invokevirtual 89, 3) := by decide +kernel
theorem dX1_moveTo_45 : decode cX1_moveTo 45 = .ok (.iastore, 1) := by decide +kernel
theorem dX1_moveTo_46 : decode cX1_moveTo 46 = .ok (.aload_n 0, 1) := by decide +kernel
theorem dX1_moveTo_47 : decode cX1_moveTo 47 = .ok (.iload_n 1, 1) := by decide +kernel
theorem dX1_moveTo_48 : decode cX1_moveTo 48 = .ok (.iload 5, 2) := by decide +kernel
theorem dX1_moveTo_50 : decode cX1_moveTo 50 = .ok (.invokevirtual 137, 3) := by decide +kernel
theorem dX1_moveTo_53 : decode cX1_moveTo 53 = .ok (.pop, 1) := by decide +kernel
theorem dX1_moveTo_54 : decode cX1_moveTo 54 = .ok (.aload_n 0, 1) := by decide +kernel
theorem dX1_moveTo_55 : decode cX1_moveTo 55 = .ok (.iload_n 1, 1) := by decide +kernel
theorem dX1_moveTo_56 : decode cX1_moveTo 56 = .ok (.iload 5, 2) := by decide +kernel
theorem dX1_moveTo_58 : decode cX1_moveTo 58 = .ok (.iload 6, 2) := by decide +kernel
theorem dX1_moveTo_60 : decode cX1_moveTo 60 = .ok (.invokevirtual 125, 3) := by decide +kernel
theorem dX1_moveTo_63 : decode cX1_moveTo 63 = .ok (.iinc 4 1, 3) := by decide +kernel
theorem dX1_moveTo_66 : decode cX1_moveTo 66 = .ok (.goto (-56), 3) := by decide +kernel
theorem dX1_moveTo_69 : decode cX1_moveTo 69 = .ok (.iconst 4, 1) := by decide +kernel
theorem dX1_moveTo_70 : decode cX1_moveTo 70 = .ok (.ireturn, 1) := by decide +kernel
theorem dX1_marryNext_0 : decode cX1_marryNext 0 = .ok (.iconst (-1), 1) := by decide +kernel
theorem dX1_marryNext_1 : decode cX1_marryNext 1 = .ok (.istore_n 1, 1) := by decide +kernel
theorem dX1_marryNext_2 : decode cX1_marryNext 2 = .ok (.iconst 0, 1) := by decide +kernel
theorem dX1_marryNext_3 : decode cX1_marryNext 3 = .ok (.istore_n 2, 1) := by decide +kernel
theorem dX1_marryNext_4 : decode cX1_marryNext 4 = .ok (.iload_n 2, 1) := by decide +kernel
theorem dX1_marryNext_5 : decode cX1_marryNext 5 = .ok (.bipush 16, 2) := by decide +kernel
theorem dX1_marryNext_7 : decode cX1_marryNext 7 = .ok (.if_icmp .ge 70, 3) := by decide +kernel
theorem dX1_marryNext_10 : decode cX1_marryNext 10 = .ok (.iload_n 2, 1) := by decide +kernel
theorem dX1_marryNext_11 : decode cX1_marryNext 11 = .ok (.iconst 4, 1) := by decide +kernel
theorem dX1_marryNext_12 : decode cX1_marryNext 12 = .ok (.idiv, 1) := by decide +kernel
theorem dX1_marryNext_13 : decode cX1_marryNext 13 = .ok (.istore_n 3, 1) := by decide +kernel
theorem dX1_marryNext_14 : decode cX1_marryNext 14 = .ok (.iload_n 2, 1) := by decide +kernel
theorem dX1_marryNext_15 : decode cX1_marryNext 15 = .ok (.iconst 4, 1) := by decide +kernel
theorem dX1_marryNext_16 : decode cX1_marryNext 16 = .ok (.irem, 1) := by decide +kernel
theorem dX1_marryNext_17 : decode cX1_marryNext 17 = .ok (.istore 4, 2) := by decide +kernel
theorem dX1_marryNext_19 : decode cX1_marryNext 19 = .ok (.aload_n 0, 1) := by decide +kernel
theorem dX1_marryNext_20 : decode cX1_marryNext 20 = .ok (.iload_n 3, 1) := by decide +kernel
theorem dX1_marryNext_21 : decode cX1_marryNext 21 = .ok (.invokevirtual 53, 3) := by decide +kernel
theorem dX1_marryNext_24 : decode cX1_marryNext 24 = .ok (.ifCond .eq 47, 3) := by decide +kernel
theorem dX1_marryNext_27 : decode cX1_marryNext 27 = .ok (.aload_n 0, 1) := by decide +kernel
theorem dX1_marryNext_28 : decode cX1_marryNext 28 = .ok (.iload_n 3, 1) := by decide +kernel
theorem dX1_marryNext_29 : decode cX1_marryNext 29 = .ok (.iload 4, 2) := by decide +kernel
theorem dX1_marryNext_31 : decode cX1_marryNext 31 = .ok (.invokevirtual 152, 3) := by decide +kernel
theorem dX1_marryNext_34 : decode cX1_marryNext 34 = .ok (.ifCond .ne 37, 3) := by decide +kernel
theorem dX1_marryNext_37 : decode cX1_marryNext 37 = .ok (.aload_n 0, 1) := by decide +kernel
theorem dX1_marryNext_38 : decode cX1_marryNext 38 = .ok (.iload_n 3, 1) := by decide +kernel
theorem dX1_marryNext_39 : decode cX1_marryNext 39 = .ok (.iload 4, 2) := by decide +kernel
theorem dX1_marryNext_41 : decode cX1_marryNext 41 = .ok (.invokevirtual 146, 3) := by decide +kernel
theorem dX1_marryNext_44 : decode cX1_marryNext 44 = .ok (.ifCond .eq 20, 3) := by decide +kernel
theorem dX1_marryNext_47 : decode cX1_marryNext 47 = .ok (.aload_n 0, 1) := by decide +kernel
theorem dX1_marryNext_48 : decode cX1_marryNext 48 = .ok (.iload_n 3, 1) := by decide +kernel
theorem dX1_marryNext_49 : decode cX1_marryNext 49 = .ok (.iload 4, 2) := by decide +kernel
theorem dX1_marryNext_51 : decode cX1_marryNext 51 = .ok (.invokevirtual 159, 3) := by decide +kernel
theorem dX1_marryNext_54 : decode cX1_marryNext 54 = .ok (.iconst (-1), 1) := by decide +kernel
theorem dX1_marryNext_55 : decode cX1_marryNext 55 = .ok (.if_icmp .eq 7, 3) := by decide +kernel
theorem dX1_marryNext_58 : decode cX1_marryNext 58 = .ok (.iconst 1, 1) := by decide +kernel
theorem dX1_marryNext_59 : decode cX1_marryNext 59 = .ok (.goto 4, 3) := by decide +kernel
theorem dX1_marryNext_62 : decode cX1_marryNext 62 = .ok (.iconst 0, 1) := by decide +kernel
theorem dX1_marryNext_63 : decode cX1_marryNext 63 = .ok (.ireturn, 1) := by decide +kernel
theorem dX1_marryNext_64 : decode cX1_marryNext 64 = .ok (.iload_n 1, 1) := by decide +kernel
theorem dX1_marryNext_65 : decode cX1_marryNext 65 = .ok (.iconst (-1), 1) := by decide +kernel
theorem dX1_marryNext_66 : decode cX1_marryNext 66 = .ok (.if_icmp .ne 5, 3) := by decide +kernel
theorem dX1_marryNext_69 : decode cX1_marryNext 69 = .ok (.iload_n 2, 1) := by decide +kernel
theorem dX1_marryNext_70 : decode cX1_marryNext 70 = .ok (.istore_n 1, 1) := by decide +kernel
theorem dX1_marryNext_71 : decode cX1_marryNext 71 = .ok (.iinc 2 1, 3) := by decide +kernel
theorem dX1_marryNext_74 : decode cX1_marryNext 74 = .ok (.goto (-70), 3) := by decide +kernel
theorem dX1_marryNext_77 : decode cX1_marryNext 77 = .ok (.iload_n 1, 1) := by decide +kernel
theorem dX1_marryNext_78 : decode cX1_marryNext 78 = .ok (.iconst (-1), 1) := by decide +kernel
theorem dX1_marryNext_79 : decode cX1_marryNext 79 = .ok (.if_icmp .eq 21, 3) := by decide +kernel
theorem dX1_marryNext_82 : decode cX1_marryNext 82 = .ok (.aload_n 0, 1) := by decide +kernel
theorem dX1_marryNext_83 : decode cX1_marryNext 83 = .ok (.iload_n 1, 1) := by decide +kernel
theorem dX1_marryNext_84 : decode cX1_marryNext 84 = .ok (.iconst 4, 1) := by decide +kernel
theorem dX1_marryNext_85 : decode cX1_marryNext 85 = .ok (.idiv, 1) := by decide +kernel
theorem dX1_marryNext_86 : decode cX1_marryNext 86 = .ok (.iload_n 1, 1) := by decide +kernel
theorem dX1_marryNext_87 : decode cX1_marryNext 87 = .ok (.iconst 4, 1) := by decide +kernel
theorem dX1_marryNext_88 : decode cX1_marryNext 88 = .ok (.irem, 1) := by decide +kernel
theorem dX1_marryNext_89 : decode cX1_marryNext 89 = .ok (.invokevirtual 159, 3) := by decide +kernel
theorem dX1_marryNext_92 : decode cX1_marryNext 92 = .ok (.iconst (-1), 1) := by decide +kernel
theorem dX1_marryNext_93 : decode cX1_marryNext 93 = .ok (.if_icmp .eq 7, 3) := by decide +kernel
theorem dX1_marryNext_96 : decode cX1_marryNext 96 = .ok (.iconst 1, 1) := by decide +kernel
theorem dX1_marryNext_97 : decode cX1_marryNext 97 = .ok (.goto 4, 3) := by decide +kernel
theorem dX1_marryNext_100 : decode cX1_marryNext 100 = .ok (.iconst 0, 1) := by decide +kernel
theorem dX1_marryNext_101 : decode cX1_marryNext 101 = .ok (.ireturn, 1) := by decide +kernel
theorem dX1_doTear_0 : decode cX1_doTear 0 = .ok (.aload_n 0, 1) := by decide +kernel
theorem dX1_doTear_1 : decode cX1_doTear 1 = .ok (.iload_n 1, 1) := by decide +kernel
theorem dX1_doTear_2 : decode cX1_doTear 2 = .ok (.iload_n 2, 1) := by decide +kernel
theorem dX1_doTear_3 : decode cX1_doTear 3 = .ok (.invokevirtual 83, 3) := by decide +kernel
theorem dX1_doTear_6 : decode cX1_doTear 6 = .ok (.istore_n 3, 1) := by decide +kernel
theorem dX1_doTear_7 : decode cX1_doTear 7 = .ok (.iload_n 3, 1) := by decide +kernel
theorem dX1_doTear_8 : decode cX1_doTear 8 = .ok (.iconst (-1), 1) := by decide +kernel
theorem dX1_doTear_9 : decode cX1_doTear 9 = .ok (.if_icmp .eq 9, 3) := by decide +kernel
theorem dX1_doTear_12 : decode cX1_doTear 12 = .ok (.aload_n 0, 1) := by decide +kernel
theorem dX1_doTear_13 : decode cX1_doTear 13 = .ok (.iload_n 1, 1) := by decide +kernel
theorem dX1_doTear_14 : decode cX1_doTear 14 = .ok (.iload_n 2, 1) := by decide +kernel
theorem dX1_doTear_15 : decode cX1_doTear 15 = .ok (.invokevirtual 131, 3) := by decide +kernel
theorem dX1_doTear_18 : decode cX1_doTear 18 = .ok (.iload_n 3, 1) := by decide +kernel
theorem dX1_doTear_19 : decode cX1_doTear 19 = .ok (.ireturn, 1) := by decide +kernel
theorem dX1_doPress_0 : decode cX1_doPress 0 = .ok (.iload_n 1, 1) := by decide +kernel
theorem dX1_doPress_1 : decode cX1_doPress 1 = .ok (.iconst 1, 1) := by decide +kernel
theorem dX1_doPress_2 : decode cX1_doPress 2 = .ok (.if_icmp .lt 9, 3) := by decide +kernel
theorem dX1_doPress_5 : decode cX1_doPress 5 = .ok (.iload_n 1, 1) := by decide +kernel
theorem dX1_doPress_6 : decode cX1_doPress 6 = .ok (.bipush 32, 2) := by decide +kernel
theorem dX1_doPress_8 : decode cX1_doPress 8 = .ok (.if_icmp .le 5, 3) := by decide +kernel
theorem dX1_doPress_11 : decode cX1_doPress 11 = .ok (.iconst (-1), 1) := by decide +kernel
theorem dX1_doPress_12 : decode cX1_doPress 12 = .ok (.ireturn, 1) := by decide +kernel
theorem dX1_doPress_13 : decode cX1_doPress 13 = .ok (.bipush 80, 2) := by decide +kernel
theorem dX1_doPress_15 : decode cX1_doPress 15 = .ok (.istore_n 2, 1) := by decide +kernel
theorem dX1_doPress_16 : decode cX1_doPress 16 = .ok (.iconst 0, 1) := by decide +kernel
theorem dX1_doPress_17 : decode cX1_doPress 17 = .ok (.istore_n 3, 1) := by decide +kernel
theorem dX1_doPress_18 : decode cX1_doPress 18 = .ok (.iload_n 3, 1) := by decide +kernel
theorem dX1_doPress_19 : decode cX1_doPress 19 = .ok (.iload_n 2, 1) := by decide +kernel
theorem dX1_doPress_20 : decode cX1_doPress 20 = .ok (.if_icmp .ge 34, 3) := by decide +kernel
theorem dX1_doPress_23 : decode cX1_doPress 23 = .ok (.aload_n 0, 1) := by decide +kernel
theorem dX1_doPress_24 : decode cX1_doPress 24 = .ok (.invokevirtual 99, 3) := by decide +kernel
theorem dX1_doPress_27 : decode cX1_doPress 27 = .ok (.iload_n 1, 1) := by decide +kernel
theorem dX1_doPress_28 : decode cX1_doPress 28 = .ok (.if_icmp .ge 26, 3) := by decide +kernel
theorem dX1_doPress_31 : decode cX1_doPress 31 = .ok (.aload_n 0, 1) := by decide +kernel
theorem dX1_doPress_32 : decode cX1_doPress 32 = .ok (.invokevirtual 162, 3) := by decide +kernel
theorem dX1_doPress_35 : decode cX1_doPress 35 = .ok (.ifCond .ne 13, 3) := by decide +kernel
theorem dX1_doPress_38 : decode cX1_doPress 38 = .ok (.aload_n 0, 1) := by decide +kernel
theorem dX1_doPress_39 : decode cX1_doPress 39 = .ok (.invokevirtual 166, 3) := by decide +kernel
theorem dX1_doPress_42 : decode cX1_doPress 42 = .ok (.ifCond .ne 6, 3) := by decide +kernel
theorem dX1_doPress_45 : decode cX1_doPress 45 = .ok (.goto 9, 3) := by decide +kernel
theorem dX1_doPress_48 : decode cX1_doPress 48 = .ok (.iinc 3 1, 3) := by decide +kernel
theorem dX1_doPress_51 : decode cX1_doPress 51 = .ok (.goto (-33), 3) := by decide +kernel
theorem dX1_doPress_54 : decode cX1_doPress 54 = .ok (.aload_n 0, 1) := by decide +kernel
theorem dX1_doPress_55 : decode cX1_doPress 55 = .ok (.invokevirtual 99, 3) := by decide +kernel
theorem dX1_doPress_58 : decode cX1_doPress 58 = .ok (.ireturn, 1) := by decide +kernel
theorem dX1_loseFirstPage_0 : decode cX1_loseFirstPage 0 = .ok (.iconst 0, 1) := by decide +kernel
theorem dX1_loseFirstPage_1 : decode cX1_loseFirstPage 1 = .ok (.istore_n 1, 1) := by decide +kernel
theorem dX1_loseFirstPage_2 : decode cX1_loseFirstPage 2 = .ok (.iload_n 1, 1) := by decide +kernel
theorem dX1_loseFirstPage_3 : decode cX1_loseFirstPage 3 = .ok (.bipush 64, 2) := by decide +kernel
theorem dX1_loseFirstPage_5 : decode cX1_loseFirstPage 5 = .ok (.if_icmp .ge 68, 3) := by decide +kernel
theorem dX1_loseFirstPage_8 : decode cX1_loseFirstPage 8 = .ok (.iload_n 1, 1) := by decide +kernel
theorem dX1_loseFirstPage_9 : decode cX1_loseFirstPage 9 = .ok (.bipush 16, 2) := by decide +kernel
theorem dX1_loseFirstPage_11 : decode cX1_loseFirstPage 11 = .ok (.idiv, 1) := by decide +kernel
theorem dX1_loseFirstPage_12 : decode cX1_loseFirstPage 12 = .ok (.istore_n 2, 1) := by decide +kernel
theorem dX1_loseFirstPage_13 : decode cX1_loseFirstPage 13 = .ok (.iload_n 1, 1) := by decide +kernel
theorem dX1_loseFirstPage_14 : decode cX1_loseFirstPage 14 = .ok (.bipush 16, 2) := by decide +kernel
theorem dX1_loseFirstPage_16 : decode cX1_loseFirstPage 16 = .ok (.irem, 1) := by decide +kernel
theorem dX1_loseFirstPage_17 : decode cX1_loseFirstPage 17 = .ok (.istore_n 3, 1) := by decide +kernel
theorem dX1_loseFirstPage_18 : decode cX1_loseFirstPage 18 = .ok (.aload_n 0, 1) := by decide +kernel
theorem dX1_loseFirstPage_19 : decode cX1_loseFirstPage 19 = .ok (.iload_n 2, 1) := by decide +kernel
theorem dX1_loseFirstPage_20 : decode cX1_loseFirstPage 20 = .ok (.iload_n 3, 1) := by decide +kernel
theorem dX1_loseFirstPage_21 : decode cX1_loseFirstPage 21 = .ok (.iconst 4, 1) := by decide +kernel
theorem dX1_loseFirstPage_22 : decode cX1_loseFirstPage 22 = .ok (.idiv, 1) := by decide +kernel
theorem dX1_loseFirstPage_23 : decode cX1_loseFirstPage 23 = .ok (.invokevirtual 77, 3) := by decide +kernel
theorem dX1_loseFirstPage_26 : decode cX1_loseFirstPage 26 = .ok (.ifCond .ne 41, 3) := by decide +kernel
theorem dX1_loseFirstPage_29 : decode cX1_loseFirstPage 29 = .ok (.aload_n 0, 1) := by decide +kernel
theorem dX1_loseFirstPage_30 : decode cX1_loseFirstPage 30 = .ok (.iload_n 2, 1) := by decide +kernel
theorem dX1_loseFirstPage_31 : decode cX1_loseFirstPage 31 = .ok (.iload_n 3, 1) := by decide +kernel
theorem dX1_loseFirstPage_32 : decode cX1_loseFirstPage 32 = .ok (.invokevirtual 169, 3) := by decide +kernel
theorem dX1_loseFirstPage_35 : decode cX1_loseFirstPage 35 = .ok (.iconst 1, 1) := by decide +kernel
theorem dX1_loseFirstPage_36 : decode cX1_loseFirstPage 36 = .ok (.if_icmp .ne 31, 3) := by decide +kernel
theorem dX1_loseFirstPage_39 : decode cX1_loseFirstPage 39 = .ok (.aload_n 0, 1) := by decide +kernel
theorem dX1_loseFirstPage_40 : decode cX1_loseFirstPage 40 = .ok (.iload_n 2, 1) := by decide +kernel
theorem dX1_loseFirstPage_41 : decode cX1_loseFirstPage 41 = .ok (.iload_n 3, 1) := by decide +kernel
theorem dX1_loseFirstPage_42 : decode cX1_loseFirstPage 42 = .ok (.invokevirtual 89, 3) := by decide +kernel
theorem dX1_loseFirstPage_45 : decode cX1_loseFirstPage 45 = .ok (.ifCond .ne 22, 3) := by decide +kernel
theorem dX1_loseFirstPage_48 : decode cX1_loseFirstPage 48 = .ok (.aload_n 0, 1) := by decide +kernel
theorem dX1_loseFirstPage_49 : decode cX1_loseFirstPage 49 = .ok (.iload_n 2, 1) := by decide +kernel
theorem dX1_loseFirstPage_50 : decode cX1_loseFirstPage 50 = .ok (.iload_n 3, 1) := by decide +kernel
theorem dX1_loseFirstPage_51 : decode cX1_loseFirstPage 51 = .ok (.invokevirtual 137, 3) := by decide +kernel
theorem dX1_loseFirstPage_54 : decode cX1_loseFirstPage 54 = .ok (.pop, 1) := by decide +kernel
theorem dX1_loseFirstPage_55 : decode cX1_loseFirstPage 55 = .ok (.aload_n 0, 1) := by decide +kernel
theorem dX1_loseFirstPage_56 : decode cX1_loseFirstPage 56 = .ok (.dup, 1) := by decide +kernel
theorem dX1_loseFirstPage_57 : decode cX1_loseFirstPage 57 = .ok (.getfield 44, 3) := by decide +kernel
theorem dX1_loseFirstPage_60 : decode cX1_loseFirstPage 60 = .ok (.iconst 1, 1) := by decide +kernel
theorem dX1_loseFirstPage_61 : decode cX1_loseFirstPage 61 = .ok (.iadd, 1) := by decide +kernel
theorem dX1_loseFirstPage_62 : decode cX1_loseFirstPage 62 = .ok (.putfield 44, 3) := by decide +kernel
theorem dX1_loseFirstPage_65 : decode cX1_loseFirstPage 65 = .ok (.iconst 1, 1) := by decide +kernel
theorem dX1_loseFirstPage_66 : decode cX1_loseFirstPage 66 = .ok (.ireturn, 1) := by decide +kernel
theorem dX1_loseFirstPage_67 : decode cX1_loseFirstPage 67 = .ok (.iinc 1 1, 3) := by decide +kernel
theorem dX1_loseFirstPage_70 : decode cX1_loseFirstPage 70 = .ok (.goto (-68), 3) := by decide +kernel
theorem dX1_loseFirstPage_73 : decode cX1_loseFirstPage 73 = .ok (.iconst 0, 1) := by decide +kernel
theorem dX1_loseFirstPage_74 : decode cX1_loseFirstPage 74 = .ok (.ireturn, 1) := by decide +kernel
theorem dX1_tearEmptiestGroup_0 : decode cX1_tearEmptiestGroup 0 = .ok (.iconst (-1), 1) := by decide +kernel
theorem dX1_tearEmptiestGroup_1 : decode cX1_tearEmptiestGroup 1 = .ok (.istore_n 1, 1) := by decide +kernel
theorem dX1_tearEmptiestGroup_2 : decode cX1_tearEmptiestGroup 2 = .ok (.iconst 0, 1) := by decide +kernel
theorem dX1_tearEmptiestGroup_3 : decode cX1_tearEmptiestGroup 3 = .ok (.istore_n 2, 1) := by decide +kernel
theorem dX1_tearEmptiestGroup_4 : decode cX1_tearEmptiestGroup 4 = .ok (.iconst 0, 1) := by decide +kernel
theorem dX1_tearEmptiestGroup_5 : decode cX1_tearEmptiestGroup 5 = .ok (.istore_n 3, 1) := by decide +kernel
theorem dX1_tearEmptiestGroup_6 : decode cX1_tearEmptiestGroup 6 = .ok (.iload_n 3, 1) := by decide +kernel
theorem dX1_tearEmptiestGroup_7 : decode cX1_tearEmptiestGroup 7 = .ok (.bipush 16, 2) := by decide +kernel
theorem dX1_tearEmptiestGroup_9 : decode cX1_tearEmptiestGroup 9 = .ok (.if_icmp .ge 64, 3) := by decide +kernel
theorem dX1_tearEmptiestGroup_12 : decode cX1_tearEmptiestGroup 12 = .ok (.iload_n 3, 1) := by decide +kernel
theorem dX1_tearEmptiestGroup_13 : decode cX1_tearEmptiestGroup 13 = .ok (.iconst 4, 1) := by decide +kernel
theorem dX1_tearEmptiestGroup_14 : decode cX1_tearEmptiestGroup 14 = .ok (.idiv, 1) := by decide +kernel
theorem dX1_tearEmptiestGroup_15 : decode cX1_tearEmptiestGroup 15 = .ok (.istore 4, 2) := by decide +kernel
theorem dX1_tearEmptiestGroup_17 : decode cX1_tearEmptiestGroup 17 = .ok (.iload_n 3, 1) := by decide +kernel
theorem dX1_tearEmptiestGroup_18 : decode cX1_tearEmptiestGroup 18 = .ok (.iconst 4, 1) := by decide +kernel
theorem dX1_tearEmptiestGroup_19 : decode cX1_tearEmptiestGroup 19 = .ok (.irem, 1) := by decide +kernel
theorem dX1_tearEmptiestGroup_20 : decode cX1_tearEmptiestGroup 20 = .ok (.istore 5, 2) := by decide +kernel
theorem dX1_tearEmptiestGroup_22 : decode cX1_tearEmptiestGroup 22 = .ok (.aload_n 0, 1) := by decide +kernel
theorem dX1_tearEmptiestGroup_23 : decode cX1_tearEmptiestGroup 23 = .ok (.iload 4, 2) := by decide +kernel
theorem dX1_tearEmptiestGroup_25 : decode cX1_tearEmptiestGroup 25 = .ok (.iload 5, 2) := by decide +kernel
theorem dX1_tearEmptiestGroup_27 : decode cX1_tearEmptiestGroup 27 = .ok (.invokevirtual 77, 3) := by decide +kernel
theorem dX1_tearEmptiestGroup_30 : decode cX1_tearEmptiestGroup 30 = .ok (.ifCond .eq 37, 3) := by decide +kernel
theorem dX1_tearEmptiestGroup_33 : decode cX1_tearEmptiestGroup 33 = .ok (.aload_n 0, 1) := by decide +kernel
theorem dX1_tearEmptiestGroup_34 : decode cX1_tearEmptiestGroup 34 = .ok (.iload 4, 2) := by decide +kernel
theorem dX1_tearEmptiestGroup_36 : decode cX1_tearEmptiestGroup 36 = .ok (.iload 5, 2) := by decide +kernel
theorem dX1_tearEmptiestGroup_38 : decode cX1_tearEmptiestGroup 38 = .ok (.invokevirtual 80, 3) := by decide +kernel
theorem dX1_tearEmptiestGroup_41 : decode cX1_tearEmptiestGroup 41 = .ok (.ifCond .ne 26, 3) := by decide +kernel
theorem dX1_tearEmptiestGroup_44 : decode cX1_tearEmptiestGroup 44 = .ok (.aload_n 0, 1) := by decide +kernel
theorem dX1_tearEmptiestGroup_45 : decode cX1_tearEmptiestGroup 45 = .ok (.iload 4, 2) := by decide +kernel
theorem dX1_tearEmptiestGroup_47 : decode cX1_tearEmptiestGroup 47 = .ok (.iload 5, 2) := by decide +kernel
theorem dX1_tearEmptiestGroup_49 : decode cX1_tearEmptiestGroup 49 = .ok (.invokevirtual 172, 3) := by decide +kernel
theorem dX1_tearEmptiestGroup_52 : decode cX1_tearEmptiestGroup 52 = .ok (.iload_n 2, 1) := by decide +kernel
theorem dX1_tearEmptiestGroup_53 : decode cX1_tearEmptiestGroup 53 = .ok (.if_icmp .le 14, 3) := by decide +kernel
theorem dX1_tearEmptiestGroup_56 : decode cX1_tearEmptiestGroup 56 = .ok (.aload_n 0, 1) := by decide +kernel
theorem dX1_tearEmptiestGroup_57 : decode cX1_tearEmptiestGroup 57 = .ok (.iload 4, 2) := by decide +kernel
theorem dX1_tearEmptiestGroup_59 : decode cX1_tearEmptiestGroup 59 = .ok (.iload 5, 2) := by decide +kernel
theorem dX1_tearEmptiestGroup_61 : decode cX1_tearEmptiestGroup 61 = .ok (.invokevirtual 172, 3) := by decide +kernel
theorem dX1_tearEmptiestGroup_64 : decode cX1_tearEmptiestGroup 64 = .ok (.istore_n 2, 1) := by decide +kernel
theorem dX1_tearEmptiestGroup_65 : decode cX1_tearEmptiestGroup 65 = .ok (.iload_n 3, 1) := by decide +kernel
theorem dX1_tearEmptiestGroup_66 : decode cX1_tearEmptiestGroup 66 = .ok (.istore_n 1, 1) := by decide +kernel
theorem dX1_tearEmptiestGroup_67 : decode cX1_tearEmptiestGroup 67 = .ok (.iinc 3 1, 3) := by decide +kernel
theorem dX1_tearEmptiestGroup_70 : decode cX1_tearEmptiestGroup 70 = .ok (.goto (-64), 3) := by decide +kernel
theorem dX1_tearEmptiestGroup_73 : decode cX1_tearEmptiestGroup 73 = .ok (.iload_n 1, 1) := by decide +kernel
theorem dX1_tearEmptiestGroup_74 : decode cX1_tearEmptiestGroup 74 = .ok (.iconst (-1), 1) := by decide +kernel
theorem dX1_tearEmptiestGroup_75 : decode cX1_tearEmptiestGroup 75 = .ok (.if_icmp .ne 5, 3) := by decide +kernel
theorem dX1_tearEmptiestGroup_78 : decode cX1_tearEmptiestGroup 78 = .ok (.iconst 0, 1) := by decide +kernel
theorem dX1_tearEmptiestGroup_79 : decode cX1_tearEmptiestGroup 79 = .ok (.ireturn, 1) := by decide +kernel
theorem dX1_tearEmptiestGroup_80 : decode cX1_tearEmptiestGroup 80 = .ok (.aload_n 0, 1) := by decide +kernel
theorem dX1_tearEmptiestGroup_81 : decode cX1_tearEmptiestGroup 81 = .ok (.iload_n 1, 1) := by decide +kernel
theorem dX1_tearEmptiestGroup_82 : decode cX1_tearEmptiestGroup 82 = .ok (.iconst 4, 1) := by decide +kernel
theorem dX1_tearEmptiestGroup_83 : decode cX1_tearEmptiestGroup 83 = .ok (.idiv, 1) := by decide +kernel
theorem dX1_tearEmptiestGroup_84 : decode cX1_tearEmptiestGroup 84 = .ok (.iload_n 1, 1) := by decide +kernel
theorem dX1_tearEmptiestGroup_85 : decode cX1_tearEmptiestGroup 85 = .ok (.iconst 4, 1) := by decide +kernel
theorem dX1_tearEmptiestGroup_86 : decode cX1_tearEmptiestGroup 86 = .ok (.irem, 1) := by decide +kernel
theorem dX1_tearEmptiestGroup_87 : decode cX1_tearEmptiestGroup 87 = .ok (.invokevirtual 131, 3) := by decide +kernel
theorem dX1_tearEmptiestGroup_90 : decode cX1_tearEmptiestGroup 90 = .ok (.iconst 1, 1) := by decide +kernel
theorem dX1_tearEmptiestGroup_91 : decode cX1_tearEmptiestGroup 91 = .ok (.ireturn, 1) := by decide +kernel
theorem dX2_init_0 : decode cX2_init 0 = .ok (.aload_n 0, 1) := by decide +kernel
theorem dX2_init_1 : decode cX2_init 1 = .ok (.invokespecial 3, 3) := by decide +kernel
theorem dX2_init_4 : decode cX2_init 4 = .ok (.aload_n 0, 1) := by decide +kernel
theorem dX2_init_5 : decode cX2_init 5 = .ok (.bipush 100, 2) := by decide +kernel
theorem dX2_init_7 : decode cX2_init 7 = .ok (.newarray .char, 2) := by decide +kernel
theorem dX2_init_9 : decode cX2_init 9 = .ok (.putfield 9, 3) := by decide +kernel
theorem dX2_init_12 : decode cX2_init 12 = .ok (.return_, 1) := by decide +kernel
theorem dX3_init_0 : decode cX3_init 0 = .ok (.aload_n 0, 1) := by decide +kernel
theorem dX3_init_1 : decode cX3_init 1 = .ok (.invokespecial 1, 3) := by decide +kernel
theorem dX3_init_4 : decode cX3_init 4 = .ok (.aload_n 0, 1) := by decide +kernel
theorem dX3_init_5 : decode cX3_init 5 = .ok (.new 7, 3) := by decide +kernel
theorem dX3_init_8 : decode cX3_init 8 = .ok (.dup, 1) := by decide +kernel
theorem dX3_init_9 : decode cX3_init 9 = .ok (.invokespecial 9, 3) := by decide +kernel
theorem dX3_init_12 : decode cX3_init 12 = .ok (.putfield 10, 3) := by decide +kernel
theorem dX3_init_15 : decode cX3_init 15 = .ok (.aload_n 0, 1) := by decide +kernel
theorem dX3_init_16 : decode cX3_init 16 = .ok (.new 16, 3) := by decide +kernel
theorem dX3_init_19 : decode cX3_init 19 = .ok (.dup, 1) := by decide +kernel
theorem dX3_init_20 : decode cX3_init 20 = .ok (.invokespecial 18, 3) := by decide +kernel
theorem dX3_init_23 : decode cX3_init 23 = .ok (.putfield 19, 3) := by decide +kernel
theorem dX3_init_26 : decode cX3_init 26 = .ok (.aload_n 0, 1) := by decide +kernel
theorem dX3_init_27 : decode cX3_init 27 = .ok (.new 16, 3) := by decide +kernel
theorem dX3_init_30 : decode cX3_init 30 = .ok (.dup, 1) := by decide +kernel
theorem dX3_init_31 : decode cX3_init 31 = .ok (.invokespecial 18, 3) := by decide +kernel
theorem dX3_init_34 : decode cX3_init 34 = .ok (.putfield 23, 3) := by decide +kernel
theorem dX3_init_37 : decode cX3_init 37 = .ok (.aload_n 0, 1) := by decide +kernel
theorem dX3_init_38 : decode cX3_init 38 = .ok (.new 26, 3) := by decide +kernel
theorem dX3_init_41 : decode cX3_init 41 = .ok (.dup, 1) := by decide +kernel
theorem dX3_init_42 : decode cX3_init 42 = .ok (.invokespecial 28, 3) := by decide +kernel
theorem dX3_init_45 : decode cX3_init 45 = .ok (.putfield 29, 3) := by decide +kernel
theorem dX3_init_48 : decode cX3_init 48 = .ok (.aload_n 0, 1) := by decide +kernel
theorem dX3_init_49 : decode cX3_init 49 = .ok (.iconst 2, 1) := by decide +kernel
theorem dX3_init_50 : decode cX3_init 50 = .ok (.anewarray 16, 3) := by decide +kernel
theorem dX3_init_53 : decode cX3_init 53 = .ok (.putfield 33, 3) := by decide +kernel
theorem dX3_init_56 : decode cX3_init 56 = .ok (.iconst 0, 1) := by decide +kernel
theorem dX3_init_57 : decode cX3_init 57 = .ok (.istore_n 1, 1) := by decide +kernel
theorem dX3_init_58 : decode cX3_init 58 = .ok (.iload_n 1, 1) := by decide +kernel
theorem dX3_init_59 : decode cX3_init 59 = .ok (.iconst 2, 1) := by decide +kernel
theorem dX3_init_60 : decode cX3_init 60 = .ok (.if_icmp .ge 22, 3) := by decide +kernel
theorem dX3_init_63 : decode cX3_init 63 = .ok (.aload_n 0, 1) := by decide +kernel
theorem dX3_init_64 : decode cX3_init 64 = .ok (.getfield 33, 3) := by decide +kernel
theorem dX3_init_67 : decode cX3_init 67 = .ok (.iload_n 1, 1) := by decide +kernel
theorem dX3_init_68 : decode cX3_init 68 = .ok (.new 16, 3) := by decide +kernel
theorem dX3_init_71 : decode cX3_init 71 = .ok (.dup, 1) := by decide +kernel
theorem dX3_init_72 : decode cX3_init 72 = .ok (.invokespecial 18, 3) := by decide +kernel
theorem dX3_init_75 : decode cX3_init 75 = .ok (.aastore, 1) := by decide +kernel
theorem dX3_init_76 : decode cX3_init 76 = .ok (.iinc 1 1, 3) := by decide +kernel
theorem dX3_init_79 : decode cX3_init 79 = .ok (.goto (-21), 3) := by decide +kernel
theorem dX3_init_82 : decode cX3_init 82 = .ok (.aload_n 0, 1) := by decide +kernel
theorem dX3_init_83 : decode cX3_init 83 = .ok (.iconst 2, 1) := by decide +kernel
theorem dX3_init_84 : decode cX3_init 84 = .ok (.newarray .boolean, 2) := by decide +kernel
theorem dX3_init_86 : decode cX3_init 86 = .ok (.putfield 37, 3) := by decide +kernel
theorem dX3_init_89 : decode cX3_init 89 = .ok (.return_, 1) := by decide +kernel
theorem dX3_about_0 : decode cX3_about 0 = .ok (.iload_n 1, 1) := by decide +kernel
theorem dX3_about_1 : decode cX3_about 1 = .ok (.tableswitch 155 0 10 #[59, 67, 75, 83, 91, 99, 107, 115, 123, 131, 139], 59) := by decide +kernel
theorem dX3_about_60 : decode cX3_about 60 = .ok (.aload_n 0, 1) := by decide +kernel
theorem dX3_about_61 : decode cX3_about 61 = .ok (.getfield 19, 3) := by decide +kernel
theorem dX3_about_64 : decode cX3_about 64 = .ok (.invokevirtual 86, 3) := by decide +kernel
theorem dX3_about_67 : decode cX3_about 67 = .ok (.ireturn, 1) := by decide +kernel
theorem dX3_about_68 : decode cX3_about 68 = .ok (.aload_n 0, 1) := by decide +kernel
theorem dX3_about_69 : decode cX3_about 69 = .ok (.getfield 19, 3) := by decide +kernel
theorem dX3_about_72 : decode cX3_about 72 = .ok (.invokevirtual 89, 3) := by decide +kernel
theorem dX3_about_75 : decode cX3_about 75 = .ok (.ireturn, 1) := by decide +kernel
theorem dX3_about_76 : decode cX3_about 76 = .ok (.aload_n 0, 1) := by decide +kernel
theorem dX3_about_77 : decode cX3_about 77 = .ok (.getfield 19, 3) := by decide +kernel
theorem dX3_about_80 : decode cX3_about 80 = .ok (.invokevirtual 92, 3) := by decide +kernel
theorem dX3_about_83 : decode cX3_about 83 = .ok (.ireturn, 1) := by decide +kernel
theorem dX3_about_84 : decode cX3_about 84 = .ok (.aload_n 0, 1) := by decide +kernel
theorem dX3_about_85 : decode cX3_about 85 = .ok (.getfield 19, 3) := by decide +kernel
theorem dX3_about_88 : decode cX3_about 88 = .ok (.invokevirtual 95, 3) := by decide +kernel
theorem dX3_about_91 : decode cX3_about 91 = .ok (.ireturn, 1) := by decide +kernel
theorem dX3_about_92 : decode cX3_about 92 = .ok (.aload_n 0, 1) := by decide +kernel
theorem dX3_about_93 : decode cX3_about 93 = .ok (.getfield 19, 3) := by decide +kernel
theorem dX3_about_96 : decode cX3_about 96 = .ok (.invokevirtual 98, 3) := by decide +kernel
theorem dX3_about_99 : decode cX3_about 99 = .ok (.ireturn, 1) := by decide +kernel
theorem dX3_about_100 : decode cX3_about 100 = .ok (.aload_n 0, 1) := by decide +kernel
theorem dX3_about_101 : decode cX3_about 101 = .ok (.getfield 19, 3) := by decide +kernel
theorem dX3_about_104 : decode cX3_about 104 = .ok (.invokevirtual 101, 3) := by decide +kernel
theorem dX3_about_107 : decode cX3_about 107 = .ok (.ireturn, 1) := by decide +kernel
theorem dX3_about_108 : decode cX3_about 108 = .ok (.aload_n 0, 1) := by decide +kernel
theorem dX3_about_109 : decode cX3_about 109 = .ok (.getfield 19, 3) := by decide +kernel
theorem dX3_about_112 : decode cX3_about 112 = .ok (.getfield 104, 3) := by decide +kernel
theorem dX3_about_115 : decode cX3_about 115 = .ok (.ireturn, 1) := by decide +kernel
theorem dX3_about_116 : decode cX3_about 116 = .ok (.aload_n 0, 1) := by decide +kernel
theorem dX3_about_117 : decode cX3_about 117 = .ok (.getfield 19, 3) := by decide +kernel
theorem dX3_about_120 : decode cX3_about 120 = .ok (.getfield 108, 3) := by decide +kernel
theorem dX3_about_123 : decode cX3_about 123 = .ok (.ireturn, 1) := by decide +kernel
theorem dX3_about_124 : decode cX3_about 124 = .ok (.aload_n 0, 1) := by decide +kernel
theorem dX3_about_125 : decode cX3_about 125 = .ok (.getfield 19, 3) := by decide +kernel
theorem dX3_about_128 : decode cX3_about 128 = .ok (.getfield 111, 3) := by decide +kernel
theorem dX3_about_131 : decode cX3_about 131 = .ok (.ireturn, 1) := by decide +kernel
theorem dX3_about_132 : decode cX3_about 132 = .ok (.aload_n 0, 1) := by decide +kernel
theorem dX3_about_133 : decode cX3_about 133 = .ok (.getfield 19, 3) := by decide +kernel
theorem dX3_about_136 : decode cX3_about 136 = .ok (.getfield 114, 3) := by decide +kernel
theorem dX3_about_139 : decode cX3_about 139 = .ok (.ireturn, 1) := by decide +kernel
theorem dX3_about_140 : decode cX3_about 140 = .ok (.aload_n 0, 1) := by decide +kernel
theorem dX3_about_141 : decode cX3_about 141 = .ok (.getfield 19, 3) := by decide +kernel
theorem dX3_about_144 : decode cX3_about 144 = .ok (.getfield 117, 3) := by decide +kernel
theorem dX3_about_147 : decode cX3_about 147 = .ok (.ifCond .eq 7, 3) := by decide +kernel
theorem dX3_about_150 : decode cX3_about 150 = .ok (.iconst 1, 1) := by decide +kernel
theorem dX3_about_151 : decode cX3_about 151 = .ok (.goto 4, 3) := by decide +kernel
theorem dX3_about_154 : decode cX3_about 154 = .ok (.iconst 0, 1) := by decide +kernel
theorem dX3_about_155 : decode cX3_about 155 = .ok (.ireturn, 1) := by decide +kernel
theorem dX3_about_156 : decode cX3_about 156 = .ok (.new 41, 3) := by decide +kernel
theorem dX3_about_159 : decode cX3_about 159 = .ok (.dup, 1) := by decide +kernel
theorem dX3_about_160 : decode cX3_about 160 = .ok (.ldc 121, 2) := by decide +kernel
theorem dX3_about_162 : decode cX3_about 162 = .ok (.invokespecial 45, 3) := by decide +kernel
theorem dX3_about_165 : decode cX3_about 165 = .ok (.athrow, 1) := by decide +kernel
theorem dX3_page_0 : decode cX3_page 0 = .ok (.aload_n 0, 1) := by decide +kernel
theorem dX3_page_1 : decode cX3_page 1 = .ok (.iload_n 1, 1) := by decide +kernel
theorem dX3_page_2 : decode cX3_page 2 = .ok (.iload_n 2, 1) := by decide +kernel
theorem dX3_page_3 : decode cX3_page 3 = .ok (.invokevirtual 123, 3) := by decide +kernel
theorem dX3_page_6 : decode cX3_page 6 = .ok (.iload_n 3, 1) := by decide +kernel
theorem dX3_page_7 : decode cX3_page 7 = .ok (.tableswitch 79 0 3 #[29, 39, 49, 59], 29) := by decide +kernel
theorem dX3_page_36 : decode cX3_page 36 = .ok (.aload_n 0, 1) := by decide +kernel
theorem dX3_page_37 : decode cX3_page 37 = .ok (.getfield 19, 3) := by decide +kernel
theorem dX3_page_40 : decode cX3_page 40 = .ok (.iload_n 1, 1) := by decide +kernel
theorem dX3_page_41 : decode cX3_page 41 = .ok (.iload_n 2, 1) := by decide +kernel
theorem dX3_page_42 : decode cX3_page 42 = .ok (.invokevirtual 127, 3) := by decide +kernel
theorem dX3_page_45 : decode cX3_page 45 = .ok (.ireturn, 1) := by decide +kernel
theorem dX3_page_46 : decode cX3_page 46 = .ok (.aload_n 0, 1) := by decide +kernel
theorem dX3_page_47 : decode cX3_page 47 = .ok (.getfield 19, 3) := by decide +kernel
theorem dX3_page_50 : decode cX3_page 50 = .ok (.iload_n 1, 1) := by decide +kernel
theorem dX3_page_51 : decode cX3_page 51 = .ok (.iload_n 2, 1) := by decide +kernel
theorem dX3_page_52 : decode cX3_page 52 = .ok (.invokevirtual 131, 3) := by decide +kernel
theorem dX3_page_55 : decode cX3_page 55 = .ok (.ireturn, 1) := by decide +kernel
theorem dX3_page_56 : decode cX3_page 56 = .ok (.aload_n 0, 1) := by decide +kernel
theorem dX3_page_57 : decode cX3_page 57 = .ok (.getfield 19, 3) := by decide +kernel
theorem dX3_page_60 : decode cX3_page 60 = .ok (.iload_n 1, 1) := by decide +kernel
theorem dX3_page_61 : decode cX3_page 61 = .ok (.iload_n 2, 1) := by decide +kernel
theorem dX3_page_62 : decode cX3_page 62 = .ok (.invokevirtual 134, 3) := by decide +kernel
theorem dX3_page_65 : decode cX3_page 65 = .ok (.ireturn, 1) := by decide +kernel
theorem dX3_page_66 : decode cX3_page 66 = .ok (.aload_n 0, 1) := by decide +kernel
theorem dX3_page_67 : decode cX3_page 67 = .ok (.getfield 19, 3) := by decide +kernel
theorem dX3_page_70 : decode cX3_page 70 = .ok (.iload_n 1, 1) := by decide +kernel
theorem dX3_page_71 : decode cX3_page 71 = .ok (.iload_n 2, 1) := by decide +kernel
theorem dX3_page_72 : decode cX3_page 72 = .ok (.iconst 4, 1) := by decide +kernel
theorem dX3_page_73 : decode cX3_page 73 = .ok (.idiv, 1) := by decide +kernel
theorem dX3_page_74 : decode cX3_page 74 = .ok (.invokevirtual 137, 3) := by decide +kernel
theorem dX3_page_77 : decode cX3_page 77 = .ok (.ifCond .eq 7, 3) := by decide +kernel
theorem dX3_page_80 : decode cX3_page 80 = .ok (.iconst 1, 1) := by decide +kernel
theorem dX3_page_81 : decode cX3_page 81 = .ok (.goto 4, 3) := by decide +kernel
theorem dX3_page_84 : decode cX3_page 84 = .ok (.iconst 0, 1) := by decide +kernel
theorem dX3_page_85 : decode cX3_page 85 = .ok (.ireturn, 1) := by decide +kernel
theorem dX3_page_86 : decode cX3_page 86 = .ok (.new 41, 3) := by decide +kernel
theorem dX3_page_89 : decode cX3_page 89 = .ok (.dup, 1) := by decide +kernel
theorem dX3_page_90 : decode cX3_page 90 = .ok (.ldc 141, 2) := by decide +kernel
theorem dX3_page_92 : decode cX3_page 92 = .ok (.invokespecial 45, 3) := by decide +kernel
theorem dX3_page_95 : decode cX3_page 95 = .ok (.athrow, 1) := by decide +kernel
theorem dX3_user_0 : decode cX3_user 0 = .ok (.iload_n 1, 1) := by decide +kernel
theorem dX3_user_1 : decode cX3_user 1 = .ok (.ifCond .lt 9, 3) := by decide +kernel
theorem dX3_user_4 : decode cX3_user 4 = .ok (.iload_n 1, 1) := by decide +kernel
theorem dX3_user_5 : decode cX3_user 5 = .ok (.bipush 32, 2) := by decide +kernel
theorem dX3_user_7 : decode cX3_user 7 = .ok (.if_icmp .lt 13, 3) := by decide +kernel
theorem dX3_user_10 : decode cX3_user 10 = .ok (.new 143, 3) := by decide +kernel
theorem dX3_user_13 : decode cX3_user 13 = .ok (.dup, 1) := by decide +kernel
theorem dX3_user_14 : decode cX3_user 14 = .ok (.ldc 145, 2) := by decide +kernel
theorem dX3_user_16 : decode cX3_user 16 = .ok (.invokespecial 147, 3) := by decide +kernel
theorem dX3_user_19 : decode cX3_user 19 = .ok (.athrow, 1) := by decide +kernel
theorem dX3_user_20 : decode cX3_user 20 = .ok (.iload_n 2, 1) := by decide +kernel
theorem dX3_user_21 : decode cX3_user 21 = .ok (.ifCond .ge 13, 3) := by decide +kernel
theorem dX3_user_24 : decode cX3_user 24 = .ok (.new 41, 3) := by decide +kernel
theorem dX3_user_27 : decode cX3_user 27 = .ok (.dup, 1) := by decide +kernel
theorem dX3_user_28 : decode cX3_user 28 = .ok (.ldc 148, 2) := by decide +kernel
theorem dX3_user_30 : decode cX3_user 30 = .ok (.invokespecial 45, 3) := by decide +kernel
theorem dX3_user_33 : decode cX3_user 33 = .ok (.athrow, 1) := by decide +kernel
theorem dX3_user_34 : decode cX3_user 34 = .ok (.aload_n 0, 1) := by decide +kernel
theorem dX3_user_35 : decode cX3_user 35 = .ok (.getfield 19, 3) := by decide +kernel
theorem dX3_user_38 : decode cX3_user 38 = .ok (.iload_n 1, 1) := by decide +kernel
theorem dX3_user_39 : decode cX3_user 39 = .ok (.iload_n 2, 1) := by decide +kernel
theorem dX3_user_40 : decode cX3_user 40 = .ok (.invokevirtual 150, 3) := by decide +kernel
theorem dX3_user_43 : decode cX3_user 43 = .ok (.ireturn, 1) := by decide +kernel
theorem dX3_group_0 : decode cX3_group 0 = .ok (.aload_n 0, 1) := by decide +kernel
theorem dX3_group_1 : decode cX3_group 1 = .ok (.iload_n 1, 1) := by decide +kernel
theorem dX3_group_2 : decode cX3_group 2 = .ok (.iload_n 2, 1) := by decide +kernel
theorem dX3_group_3 : decode cX3_group 3 = .ok (.invokevirtual 153, 3) := by decide +kernel
theorem dX3_group_6 : decode cX3_group 6 = .ok (.iload_n 3, 1) := by decide +kernel
theorem dX3_group_7 : decode cX3_group 7 = .ok (.tableswitch 99 0 4 #[33, 43, 61, 79, 89], 33) := by decide +kernel
theorem dX3_group_40 : decode cX3_group 40 = .ok (.aload_n 0, 1) := by decide +kernel
theorem dX3_group_41 : decode cX3_group 41 = .ok (.getfield 19, 3) := by decide +kernel
theorem dX3_group_44 : decode cX3_group 44 = .ok (.iload_n 1, 1) := by decide +kernel
theorem dX3_group_45 : decode cX3_group 45 = .ok (.iload_n 2, 1) := by decide +kernel
theorem dX3_group_46 : decode cX3_group 46 = .ok (.invokevirtual 156, 3) := by decide +kernel
theorem dX3_group_49 : decode cX3_group 49 = .ok (.ireturn, 1) := by decide +kernel
theorem dX3_group_50 : decode cX3_group 50 = .ok (.aload_n 0, 1) := by decide +kernel
theorem dX3_group_51 : decode cX3_group 51 = .ok (.getfield 19, 3) := by decide +kernel
theorem dX3_group_54 : decode cX3_group 54 = .ok (.iload_n 1, 1) := by decide +kernel
theorem dX3_group_55 : decode cX3_group 55 = .ok (.iload_n 2, 1) := by decide +kernel
theorem dX3_group_56 : decode cX3_group 56 = .ok (.invokevirtual 137, 3) := by decide +kernel
theorem dX3_group_59 : decode cX3_group 59 = .ok (.ifCond .eq 7, 3) := by decide +kernel
theorem dX3_group_62 : decode cX3_group 62 = .ok (.iconst 1, 1) := by decide +kernel
theorem dX3_group_63 : decode cX3_group 63 = .ok (.goto 4, 3) := by decide +kernel
theorem dX3_group_66 : decode cX3_group 66 = .ok (.iconst 0, 1) := by decide +kernel
theorem dX3_group_67 : decode cX3_group 67 = .ok (.ireturn, 1) := by decide +kernel
theorem dX3_group_68 : decode cX3_group 68 = .ok (.aload_n 0, 1) := by decide +kernel
theorem dX3_group_69 : decode cX3_group 69 = .ok (.getfield 19, 3) := by decide +kernel
theorem dX3_group_72 : decode cX3_group 72 = .ok (.iload_n 1, 1) := by decide +kernel
theorem dX3_group_73 : decode cX3_group 73 = .ok (.iload_n 2, 1) := by decide +kernel
theorem dX3_group_74 : decode cX3_group 74 = .ok (.invokevirtual 159, 3) := by decide +kernel
theorem dX3_group_77 : decode cX3_group 77 = .ok (.ifCond .eq 7, 3) := by decide +kernel
theorem dX3_group_80 : decode cX3_group 80 = .ok (.iconst 1, 1) := by decide +kernel
theorem dX3_group_81 : decode cX3_group 81 = .ok (.goto 4, 3) := by decide +kernel
theorem dX3_group_84 : decode cX3_group 84 = .ok (.iconst 0, 1) := by decide +kernel
theorem dX3_group_85 : decode cX3_group 85 = .ok (.ireturn, 1) := by decide +kernel
theorem dX3_group_86 : decode cX3_group 86 = .ok (.aload_n 0, 1) := by decide +kernel
theorem dX3_group_87 : decode cX3_group 87 = .ok (.getfield 19, 3) := by decide +kernel
theorem dX3_group_90 : decode cX3_group 90 = .ok (.iload_n 1, 1) := by decide +kernel
theorem dX3_group_91 : decode cX3_group 91 = .ok (.iload_n 2, 1) := by decide +kernel
theorem dX3_group_92 : decode cX3_group 92 = .ok (.invokevirtual 162, 3) := by decide +kernel
theorem dX3_group_95 : decode cX3_group 95 = .ok (.ireturn, 1) := by decide +kernel
theorem dX3_group_96 : decode cX3_group 96 = .ok (.aload_n 0, 1) := by decide +kernel
theorem dX3_group_97 : decode cX3_group 97 = .ok (.getfield 19, 3) := by decide +kernel
theorem dX3_group_100 : decode cX3_group 100 = .ok (.iload_n 1, 1) := by decide +kernel
theorem dX3_group_101 : decode cX3_group 101 = .ok (.iload_n 2, 1) := by decide +kernel
theorem dX3_group_102 : decode cX3_group 102 = .ok (.invokevirtual 165, 3) := by decide +kernel
theorem dX3_group_105 : decode cX3_group 105 = .ok (.ireturn, 1) := by decide +kernel
theorem dX3_group_106 : decode cX3_group 106 = .ok (.new 41, 3) := by decide +kernel
theorem dX3_group_109 : decode cX3_group 109 = .ok (.dup, 1) := by decide +kernel
theorem dX3_group_110 : decode cX3_group 110 = .ok (.ldc 168, 2) := by decide +kernel
theorem dX3_group_112 : decode cX3_group 112 = .ok (.invokespecial 45, 3) := by decide +kernel
theorem dX3_group_115 : decode cX3_group 115 = .ok (.athrow, 1) := by decide +kernel
theorem dX3_write_0 : decode cX3_write 0 = .ok (.aload_n 0, 1) := by decide +kernel
theorem dX3_write_1 : decode cX3_write 1 = .ok (.iload_n 1, 1) := by decide +kernel
theorem dX3_write_2 : decode cX3_write 2 = .ok (.iload_n 2, 1) := by decide +kernel
theorem dX3_write_3 : decode cX3_write 3 = .ok (.invokevirtual 123, 3) := by decide +kernel
theorem dX3_write_6 : decode cX3_write 6 = .ok (.iload_n 3, 1) := by decide +kernel
theorem dX3_write_7 : decode cX3_write 7 = .ok (.ifCond .lt 9, 3) := by decide +kernel
theorem dX3_write_10 : decode cX3_write 10 = .ok (.iload_n 3, 1) := by decide +kernel
theorem dX3_write_11 : decode cX3_write 11 = .ok (.bipush 100, 2) := by decide +kernel
theorem dX3_write_13 : decode cX3_write 13 = .ok (.if_icmp .lt 13, 3) := by decide +kernel
theorem dX3_write_16 : decode cX3_write 16 = .ok (.new 41, 3) := by decide +kernel
theorem dX3_write_19 : decode cX3_write 19 = .ok (.dup, 1) := by decide +kernel
theorem dX3_write_20 : decode cX3_write 20 = .ok (.ldc 170, 2) := by decide +kernel
theorem dX3_write_22 : decode cX3_write 22 = .ok (.invokespecial 45, 3) := by decide +kernel
theorem dX3_write_25 : decode cX3_write 25 = .ok (.athrow, 1) := by decide +kernel
theorem dX3_write_26 : decode cX3_write 26 = .ok (.aload_n 0, 1) := by decide +kernel
theorem dX3_write_27 : decode cX3_write 27 = .ok (.getfield 19, 3) := by decide +kernel
theorem dX3_write_30 : decode cX3_write 30 = .ok (.iload_n 1, 1) := by decide +kernel
theorem dX3_write_31 : decode cX3_write 31 = .ok (.iload_n 2, 1) := by decide +kernel
theorem dX3_write_32 : decode cX3_write 32 = .ok (.invokevirtual 172, 3) := by decide +kernel
theorem dX3_write_35 : decode cX3_write 35 = .ok (.iconst (-1), 1) := by decide +kernel
theorem dX3_write_36 : decode cX3_write 36 = .ok (.if_icmp .ne 13, 3) := by decide +kernel
theorem dX3_write_39 : decode cX3_write 39 = .ok (.new 52, 3) := by decide +kernel
theorem dX3_write_42 : decode cX3_write 42 = .ok (.dup, 1) := by decide +kernel
theorem dX3_write_43 : decode cX3_write 43 = .ok (.ldc 175, 2) := by decide +kernel
theorem dX3_write_45 : decode cX3_write 45 = .ok (.invokespecial 56, 3) := by decide +kernel
theorem dX3_write_48 : decode cX3_write 48 = .ok (.athrow, 1) := by decide +kernel
theorem dX3_write_49 : decode cX3_write 49 = .ok (.aload_n 0, 1) := by decide +kernel
theorem dX3_write_50 : decode cX3_write 50 = .ok (.getfield 29, 3) := by decide +kernel
theorem dX3_write_53 : decode cX3_write 53 = .ok (.aload_n 0, 1) := by decide +kernel
theorem dX3_write_54 : decode cX3_write 54 = .ok (.getfield 19, 3) := by decide +kernel
theorem dX3_write_57 : decode cX3_write 57 = .ok (.invokevirtual 177, 3) := by decide +kernel
theorem dX3_write_60 : decode cX3_write 60 = .ok (.aload_n 0, 1) := by decide +kernel
theorem dX3_write_61 : decode cX3_write 61 = .ok (.getfield 19, 3) := by decide +kernel
theorem dX3_write_64 : decode cX3_write 64 = .ok (.iload_n 1, 1) := by decide +kernel
theorem dX3_write_65 : decode cX3_write 65 = .ok (.iload_n 2, 1) := by decide +kernel
theorem dX3_write_66 : decode cX3_write 66 = .ok (.iload_n 3, 1) := by decide +kernel
theorem dX3_write_67 : decode cX3_write 67 = .ok (.invokevirtual 181, 3) := by decide +kernel
theorem dX3_write_70 : decode cX3_write 70 = .ok (.ireturn, 1) := by decide +kernel
theorem dX3_fork_0 : decode cX3_fork 0 = .ok (.aload_n 0, 1) := by decide +kernel
theorem dX3_fork_1 : decode cX3_fork 1 = .ok (.iload_n 1, 1) := by decide +kernel
theorem dX3_fork_2 : decode cX3_fork 2 = .ok (.invokevirtual 185, 3) := by decide +kernel
theorem dX3_fork_5 : decode cX3_fork 5 = .ok (.aload_n 0, 1) := by decide +kernel
theorem dX3_fork_6 : decode cX3_fork 6 = .ok (.getfield 19, 3) := by decide +kernel
theorem dX3_fork_9 : decode cX3_fork 9 = .ok (.iload_n 1, 1) := by decide +kernel
theorem dX3_fork_10 : decode cX3_fork 10 = .ok (.invokevirtual 189, 3) := by decide +kernel
theorem dX3_fork_13 : decode cX3_fork 13 = .ok (.ifCond .ne 13, 3) := by decide +kernel
theorem dX3_fork_16 : decode cX3_fork 16 = .ok (.new 52, 3) := by decide +kernel
theorem dX3_fork_19 : decode cX3_fork 19 = .ok (.dup, 1) := by decide +kernel
theorem dX3_fork_20 : decode cX3_fork 20 = .ok (.ldc 192, 2) := by decide +kernel
theorem dX3_fork_22 : decode cX3_fork 22 = .ok (.invokespecial 56, 3) := by decide +kernel
theorem dX3_fork_25 : decode cX3_fork 25 = .ok (.athrow, 1) := by decide +kernel
theorem dX3_fork_26 : decode cX3_fork 26 = .ok (.aload_n 0, 1) := by decide +kernel
theorem dX3_fork_27 : decode cX3_fork 27 = .ok (.getfield 29, 3) := by decide +kernel
theorem dX3_fork_30 : decode cX3_fork 30 = .ok (.aload_n 0, 1) := by decide +kernel
theorem dX3_fork_31 : decode cX3_fork 31 = .ok (.getfield 19, 3) := by decide +kernel
theorem dX3_fork_34 : decode cX3_fork 34 = .ok (.invokevirtual 177, 3) := by decide +kernel
theorem dX3_fork_37 : decode cX3_fork 37 = .ok (.aload_n 0, 1) := by decide +kernel
theorem dX3_fork_38 : decode cX3_fork 38 = .ok (.getfield 19, 3) := by decide +kernel
theorem dX3_fork_41 : decode cX3_fork 41 = .ok (.iload_n 1, 1) := by decide +kernel
theorem dX3_fork_42 : decode cX3_fork 42 = .ok (.invokevirtual 194, 3) := by decide +kernel
theorem dX3_fork_45 : decode cX3_fork 45 = .ok (.ireturn, 1) := by decide +kernel
theorem dX3_exit_0 : decode cX3_exit 0 = .ok (.aload_n 0, 1) := by decide +kernel
theorem dX3_exit_1 : decode cX3_exit 1 = .ok (.iload_n 1, 1) := by decide +kernel
theorem dX3_exit_2 : decode cX3_exit 2 = .ok (.invokevirtual 185, 3) := by decide +kernel
theorem dX3_exit_5 : decode cX3_exit 5 = .ok (.aload_n 0, 1) := by decide +kernel
theorem dX3_exit_6 : decode cX3_exit 6 = .ok (.getfield 19, 3) := by decide +kernel
theorem dX3_exit_9 : decode cX3_exit 9 = .ok (.iload_n 1, 1) := by decide +kernel
theorem dX3_exit_10 : decode cX3_exit 10 = .ok (.invokevirtual 198, 3) := by decide +kernel
theorem dX3_exit_13 : decode cX3_exit 13 = .ok (.ifCond .ne 13, 3) := by decide +kernel
theorem dX3_exit_16 : decode cX3_exit 16 = .ok (.new 52, 3) := by decide +kernel
theorem dX3_exit_19 : decode cX3_exit 19 = .ok (.dup, 1) := by decide +kernel
theorem dX3_exit_20 : decode cX3_exit 20 = .ok (.ldc 201, 2) := by decide +kernel
theorem dX3_exit_22 : decode cX3_exit 22 = .ok (.invokespecial 56, 3) := by decide +kernel
theorem dX3_exit_25 : decode cX3_exit 25 = .ok (.athrow, 1) := by decide +kernel
theorem dX3_exit_26 : decode cX3_exit 26 = .ok (.aload_n 0, 1) := by decide +kernel
theorem dX3_exit_27 : decode cX3_exit 27 = .ok (.getfield 29, 3) := by decide +kernel
theorem dX3_exit_30 : decode cX3_exit 30 = .ok (.aload_n 0, 1) := by decide +kernel
theorem dX3_exit_31 : decode cX3_exit 31 = .ok (.getfield 19, 3) := by decide +kernel
theorem dX3_exit_34 : decode cX3_exit 34 = .ok (.invokevirtual 177, 3) := by decide +kernel
theorem dX3_exit_37 : decode cX3_exit 37 = .ok (.aload_n 0, 1) := by decide +kernel
theorem dX3_exit_38 : decode cX3_exit 38 = .ok (.getfield 19, 3) := by decide +kernel
theorem dX3_exit_41 : decode cX3_exit 41 = .ok (.iload_n 1, 1) := by decide +kernel
theorem dX3_exit_42 : decode cX3_exit 42 = .ok (.invokevirtual 203, 3) := by decide +kernel
theorem dX3_exit_45 : decode cX3_exit 45 = .ok (.ireturn, 1) := by decide +kernel
theorem dX3_marry_0 : decode cX3_marry 0 = .ok (.aload_n 0, 1) := by decide +kernel
theorem dX3_marry_1 : decode cX3_marry 1 = .ok (.iload_n 1, 1) := by decide +kernel
theorem dX3_marry_2 : decode cX3_marry 2 = .ok (.iload_n 2, 1) := by decide +kernel
theorem dX3_marry_3 : decode cX3_marry 3 = .ok (.invokevirtual 153, 3) := by decide +kernel
theorem dX3_marry_6 : decode cX3_marry 6 = .ok (.aload_n 0, 1) := by decide +kernel
theorem dX3_marry_7 : decode cX3_marry 7 = .ok (.getfield 19, 3) := by decide +kernel
theorem dX3_marry_10 : decode cX3_marry 10 = .ok (.iload_n 1, 1) := by decide +kernel
theorem dX3_marry_11 : decode cX3_marry 11 = .ok (.iload_n 2, 1) := by decide +kernel
theorem dX3_marry_12 : decode cX3_marry 12 = .ok (.invokevirtual 206, 3) := by decide +kernel
theorem dX3_marry_15 : decode cX3_marry 15 = .ok (.ifCond .eq 13, 3) := by decide +kernel
theorem dX3_marry_18 : decode cX3_marry 18 = .ok (.new 52, 3) := by decide +kernel
theorem dX3_marry_21 : decode cX3_marry 21 = .ok (.dup, 1) := by decide +kernel
theorem dX3_marry_22 : decode cX3_marry 22 = .ok (.ldc 209, 2) := by decide +kernel
theorem dX3_marry_24 : decode cX3_marry 24 = .ok (.invokespecial 56, 3) := by decide +kernel
theorem dX3_marry_27 : decode cX3_marry 27 = .ok (.athrow, 1) := by decide +kernel
theorem dX3_marry_28 : decode cX3_marry 28 = .ok (.aload_n 0, 1) := by decide +kernel
theorem dX3_marry_29 : decode cX3_marry 29 = .ok (.getfield 29, 3) := by decide +kernel
theorem dX3_marry_32 : decode cX3_marry 32 = .ok (.aload_n 0, 1) := by decide +kernel
theorem dX3_marry_33 : decode cX3_marry 33 = .ok (.getfield 19, 3) := by decide +kernel
theorem dX3_marry_36 : decode cX3_marry 36 = .ok (.invokevirtual 177, 3) := by decide +kernel
theorem dX3_marry_39 : decode cX3_marry 39 = .ok (.aload_n 0, 1) := by decide +kernel
theorem dX3_marry_40 : decode cX3_marry 40 = .ok (.getfield 19, 3) := by decide +kernel
theorem dX3_marry_43 : decode cX3_marry 43 = .ok (.iload_n 1, 1) := by decide +kernel
theorem dX3_marry_44 : decode cX3_marry 44 = .ok (.iload_n 2, 1) := by decide +kernel
theorem dX3_marry_45 : decode cX3_marry 45 = .ok (.invokevirtual 211, 3) := by decide +kernel
theorem dX3_marry_48 : decode cX3_marry 48 = .ok (.ireturn, 1) := by decide +kernel
theorem dX3_tear_0 : decode cX3_tear 0 = .ok (.aload_n 0, 1) := by decide +kernel
theorem dX3_tear_1 : decode cX3_tear 1 = .ok (.iload_n 1, 1) := by decide +kernel
theorem dX3_tear_2 : decode cX3_tear 2 = .ok (.iload_n 2, 1) := by decide +kernel
theorem dX3_tear_3 : decode cX3_tear 3 = .ok (.invokevirtual 153, 3) := by decide +kernel
theorem dX3_tear_6 : decode cX3_tear 6 = .ok (.aload_n 0, 1) := by decide +kernel
theorem dX3_tear_7 : decode cX3_tear 7 = .ok (.getfield 19, 3) := by decide +kernel
theorem dX3_tear_10 : decode cX3_tear 10 = .ok (.iload_n 1, 1) := by decide +kernel
theorem dX3_tear_11 : decode cX3_tear 11 = .ok (.iload_n 2, 1) := by decide +kernel
theorem dX3_tear_12 : decode cX3_tear 12 = .ok (.invokevirtual 137, 3) := by decide +kernel
theorem dX3_tear_15 : decode cX3_tear 15 = .ok (.ifCond .ne 13, 3) := by decide +kernel
theorem dX3_tear_18 : decode cX3_tear 18 = .ok (.new 52, 3) := by decide +kernel
theorem dX3_tear_21 : decode cX3_tear 21 = .ok (.dup, 1) := by decide +kernel
theorem dX3_tear_22 : decode cX3_tear 22 = .ok (.ldc 214, 2) := by decide +kernel
theorem dX3_tear_24 : decode cX3_tear 24 = .ok (.invokespecial 56, 3) := by decide +kernel
theorem dX3_tear_27 : decode cX3_tear 27 = .ok (.athrow, 1) := by decide +kernel
theorem dX3_tear_28 : decode cX3_tear 28 = .ok (.aload_n 0, 1) := by decide +kernel
theorem dX3_tear_29 : decode cX3_tear 29 = .ok (.getfield 29, 3) := by decide +kernel
theorem dX3_tear_32 : decode cX3_tear 32 = .ok (.aload_n 0, 1) := by decide +kernel
theorem dX3_tear_33 : decode cX3_tear 33 = .ok (.getfield 19, 3) := by decide +kernel
theorem dX3_tear_36 : decode cX3_tear 36 = .ok (.invokevirtual 177, 3) := by decide +kernel
theorem dX3_tear_39 : decode cX3_tear 39 = .ok (.aload_n 0, 1) := by decide +kernel
theorem dX3_tear_40 : decode cX3_tear 40 = .ok (.getfield 19, 3) := by decide +kernel
theorem dX3_tear_43 : decode cX3_tear 43 = .ok (.iload_n 1, 1) := by decide +kernel
theorem dX3_tear_44 : decode cX3_tear 44 = .ok (.iload_n 2, 1) := by decide +kernel
theorem dX3_tear_45 : decode cX3_tear 45 = .ok (.invokevirtual 216, 3) := by decide +kernel
theorem dX3_tear_48 : decode cX3_tear 48 = .ok (.ireturn, 1) := by decide +kernel
theorem dX3_press_0 : decode cX3_press 0 = .ok (.iload_n 1, 1) := by decide +kernel
theorem dX3_press_1 : decode cX3_press 1 = .ok (.iconst 1, 1) := by decide +kernel
theorem dX3_press_2 : decode cX3_press 2 = .ok (.if_icmp .lt 9, 3) := by decide +kernel
theorem dX3_press_5 : decode cX3_press 5 = .ok (.iload_n 1, 1) := by decide +kernel
theorem dX3_press_6 : decode cX3_press 6 = .ok (.bipush 32, 2) := by decide +kernel
theorem dX3_press_8 : decode cX3_press 8 = .ok (.if_icmp .le 13, 3) := by decide +kernel
theorem dX3_press_11 : decode cX3_press 11 = .ok (.new 41, 3) := by decide +kernel
theorem dX3_press_14 : decode cX3_press 14 = .ok (.dup, 1) := by decide +kernel
theorem dX3_press_15 : decode cX3_press 15 = .ok (.ldc 219, 2) := by decide +kernel
theorem dX3_press_17 : decode cX3_press 17 = .ok (.invokespecial 45, 3) := by decide +kernel
theorem dX3_press_20 : decode cX3_press 20 = .ok (.athrow, 1) := by decide +kernel
theorem dX3_press_21 : decode cX3_press 21 = .ok (.aload_n 0, 1) := by decide +kernel
theorem dX3_press_22 : decode cX3_press 22 = .ok (.getfield 29, 3) := by decide +kernel
theorem dX3_press_25 : decode cX3_press 25 = .ok (.aload_n 0, 1) := by decide +kernel
theorem dX3_press_26 : decode cX3_press 26 = .ok (.getfield 19, 3) := by decide +kernel
theorem dX3_press_29 : decode cX3_press 29 = .ok (.invokevirtual 177, 3) := by decide +kernel
theorem dX3_press_32 : decode cX3_press 32 = .ok (.aload_n 0, 1) := by decide +kernel
theorem dX3_press_33 : decode cX3_press 33 = .ok (.getfield 19, 3) := by decide +kernel
theorem dX3_press_36 : decode cX3_press 36 = .ok (.iload_n 1, 1) := by decide +kernel
theorem dX3_press_37 : decode cX3_press 37 = .ok (.invokevirtual 221, 3) := by decide +kernel
theorem dX3_press_40 : decode cX3_press 40 = .ok (.ireturn, 1) := by decide +kernel
theorem dX3_setEager_0 : decode cX3_setEager 0 = .ok (.aload_n 0, 1) := by decide +kernel
theorem dX3_setEager_1 : decode cX3_setEager 1 = .ok (.getfield 29, 3) := by decide +kernel
theorem dX3_setEager_4 : decode cX3_setEager 4 = .ok (.aload_n 0, 1) := by decide +kernel
theorem dX3_setEager_5 : decode cX3_setEager 5 = .ok (.getfield 19, 3) := by decide +kernel
theorem dX3_setEager_8 : decode cX3_setEager 8 = .ok (.invokevirtual 177, 3) := by decide +kernel
theorem dX3_setEager_11 : decode cX3_setEager 11 = .ok (.aload_n 0, 1) := by decide +kernel
theorem dX3_setEager_12 : decode cX3_setEager 12 = .ok (.getfield 19, 3) := by decide +kernel
theorem dX3_setEager_15 : decode cX3_setEager 15 = .ok (.iload_n 1, 1) := by decide +kernel
theorem dX3_setEager_16 : decode cX3_setEager 16 = .ok (.putfield 117, 3) := by decide +kernel
theorem dX3_setEager_19 : decode cX3_setEager 19 = .ok (.aload_n 0, 1) := by decide +kernel
theorem dX3_setEager_20 : decode cX3_setEager 20 = .ok (.getfield 19, 3) := by decide +kernel
theorem dX3_setEager_23 : decode cX3_setEager 23 = .ok (.invokevirtual 92, 3) := by decide +kernel
theorem dX3_setEager_26 : decode cX3_setEager 26 = .ok (.ireturn, 1) := by decide +kernel
theorem dX3_whyNot_0 : decode cX3_whyNot 0 = .ok (.aload_n 0, 1) := by decide +kernel
theorem dX3_whyNot_1 : decode cX3_whyNot 1 = .ok (.iload_n 1, 1) := by decide +kernel
theorem dX3_whyNot_2 : decode cX3_whyNot 2 = .ok (.iload_n 2, 1) := by decide +kernel
theorem dX3_whyNot_3 : decode cX3_whyNot 3 = .ok (.invokevirtual 153, 3) := by decide +kernel
theorem dX3_whyNot_6 : decode cX3_whyNot 6 = .ok (.aload_n 0, 1) := by decide +kernel
theorem dX3_whyNot_7 : decode cX3_whyNot 7 = .ok (.getfield 19, 3) := by decide +kernel
theorem dX3_whyNot_10 : decode cX3_whyNot 10 = .ok (.iload_n 1, 1) := by decide +kernel
theorem dX3_whyNot_11 : decode cX3_whyNot 11 = .ok (.iload_n 2, 1) := by decide +kernel
theorem dX3_whyNot_12 : decode cX3_whyNot 12 = .ok (.invokevirtual 206, 3) := by decide +kernel
theorem dX3_whyNot_15 : decode cX3_whyNot 15 = .ok (.ireturn, 1) := by decide +kernel
theorem dX3_wouldDo_0 : decode cX3_wouldDo 0 = .ok (.aload_n 0, 1) := by decide +kernel
theorem dX3_wouldDo_1 : decode cX3_wouldDo 1 = .ok (.iload_n 1, 1) := by decide +kernel
theorem dX3_wouldDo_2 : decode cX3_wouldDo 2 = .ok (.iload_n 2, 1) := by decide +kernel
theorem dX3_wouldDo_3 : decode cX3_wouldDo 3 = .ok (.invokevirtual 123, 3) := by decide +kernel
theorem dX3_wouldDo_6 : decode cX3_wouldDo 6 = .ok (.aload_n 0, 1) := by decide +kernel
theorem dX3_wouldDo_7 : decode cX3_wouldDo 7 = .ok (.getfield 19, 3) := by decide +kernel
theorem dX3_wouldDo_10 : decode cX3_wouldDo 10 = .ok (.iload_n 1, 1) := by decide +kernel
theorem dX3_wouldDo_11 : decode cX3_wouldDo 11 = .ok (.iload_n 2, 1) := by decide +kernel
theorem dX3_wouldDo_12 : decode cX3_wouldDo 12 = .ok (.invokevirtual 172, 3) := by decide +kernel
theorem dX3_wouldDo_15 : decode cX3_wouldDo 15 = .ok (.ireturn, 1) := by decide +kernel
theorem dX3_marriages_0 : decode cX3_marriages 0 = .ok (.aload_n 0, 1) := by decide +kernel
theorem dX3_marriages_1 : decode cX3_marriages 1 = .ok (.getfield 23, 3) := by decide +kernel
theorem dX3_marriages_4 : decode cX3_marriages 4 = .ok (.aload_n 0, 1) := by decide +kernel
theorem dX3_marriages_5 : decode cX3_marriages 5 = .ok (.getfield 19, 3) := by decide +kernel
theorem dX3_marriages_8 : decode cX3_marriages 8 = .ok (.invokevirtual 232, 3) := by decide +kernel
theorem dX3_marriages_11 : decode cX3_marriages 11 = .ok (.iconst 0, 1) := by decide +kernel
theorem dX3_marriages_12 : decode cX3_marriages 12 = .ok (.istore_n 1, 1) := by decide +kernel
theorem dX3_marriages_13 : decode cX3_marriages 13 = .ok (.iload_n 1, 1) := by decide +kernel
theorem dX3_marriages_14 : decode cX3_marriages 14 = .ok (.bipush 16, 2) := by decide +kernel
theorem dX3_marriages_16 : decode cX3_marriages 16 = .ok (.if_icmp .ge 19, 3) := by decide +kernel
theorem dX3_marriages_19 : decode cX3_marriages 19 = .ok (.aload_n 0, 1) := by decide +kernel
theorem dX3_marriages_20 : decode cX3_marriages 20 = .ok (.getfield 23, 3) := by decide +kernel
theorem dX3_marriages_23 : decode cX3_marriages 23 = .ok (.invokevirtual 235, 3) := by decide +kernel
theorem dX3_marriages_26 : decode cX3_marriages 26 = .ok (.ifCond .eq 9, 3) := by decide +kernel
theorem dX3_marriages_29 : decode cX3_marriages 29 = .ok (.iinc 1 1, 3) := by decide +kernel
theorem dX3_marriages_32 : decode cX3_marriages 32 = .ok (.goto (-19), 3) := by decide +kernel
theorem dX3_marriages_35 : decode cX3_marriages 35 = .ok (.iload_n 1, 1) := by decide +kernel
theorem dX3_marriages_36 : decode cX3_marriages 36 = .ok (.ireturn, 1) := by decide +kernel
theorem dX3_mostFree_0 : decode cX3_mostFree 0 = .ok (.aload_n 0, 1) := by decide +kernel
theorem dX3_mostFree_1 : decode cX3_mostFree 1 = .ok (.getfield 23, 3) := by decide +kernel
theorem dX3_mostFree_4 : decode cX3_mostFree 4 = .ok (.aload_n 0, 1) := by decide +kernel
theorem dX3_mostFree_5 : decode cX3_mostFree 5 = .ok (.getfield 19, 3) := by decide +kernel
theorem dX3_mostFree_8 : decode cX3_mostFree 8 = .ok (.invokevirtual 232, 3) := by decide +kernel
theorem dX3_mostFree_11 : decode cX3_mostFree 11 = .ok (.aload_n 0, 1) := by decide +kernel
theorem dX3_mostFree_12 : decode cX3_mostFree 12 = .ok (.getfield 23, 3) := by decide +kernel
theorem dX3_mostFree_15 : decode cX3_mostFree 15 = .ok (.bipush 32, 2) := by decide +kernel
theorem dX3_mostFree_17 : decode cX3_mostFree 17 = .ok (.invokevirtual 221, 3) := by decide +kernel
theorem dX3_mostFree_20 : decode cX3_mostFree 20 = .ok (.ireturn, 1) := by decide +kernel
theorem dX3_writable_0 : decode cX3_writable 0 = .ok (.aload_n 0, 1) := by decide +kernel
theorem dX3_writable_1 : decode cX3_writable 1 = .ok (.iload_n 1, 1) := by decide +kernel
theorem dX3_writable_2 : decode cX3_writable 2 = .ok (.invokevirtual 185, 3) := by decide +kernel
theorem dX3_writable_5 : decode cX3_writable 5 = .ok (.aload_n 0, 1) := by decide +kernel
theorem dX3_writable_6 : decode cX3_writable 6 = .ok (.getfield 23, 3) := by decide +kernel
theorem dX3_writable_9 : decode cX3_writable 9 = .ok (.aload_n 0, 1) := by decide +kernel
theorem dX3_writable_10 : decode cX3_writable 10 = .ok (.getfield 19, 3) := by decide +kernel
theorem dX3_writable_13 : decode cX3_writable 13 = .ok (.invokevirtual 232, 3) := by decide +kernel
theorem dX3_writable_16 : decode cX3_writable 16 = .ok (.iconst 0, 1) := by decide +kernel
theorem dX3_writable_17 : decode cX3_writable 17 = .ok (.istore_n 2, 1) := by decide +kernel
theorem dX3_writable_18 : decode cX3_writable 18 = .ok (.iload_n 2, 1) := by decide +kernel
theorem dX3_writable_19 : decode cX3_writable 19 = .ok (.bipush 16, 2) := by decide +kernel
theorem dX3_writable_21 : decode cX3_writable 21 = .ok (.if_icmp .ge 23, 3) := by decide +kernel
theorem dX3_writable_24 : decode cX3_writable 24 = .ok (.aload_n 0, 1) := by decide +kernel
theorem dX3_writable_25 : decode cX3_writable 25 = .ok (.getfield 23, 3) := by decide +kernel
theorem dX3_writable_28 : decode cX3_writable 28 = .ok (.iload_n 1, 1) := by decide +kernel
theorem dX3_writable_29 : decode cX3_writable 29 = .ok (.iload_n 2, 1) := by decide +kernel
theorem dX3_writable_30 : decode cX3_writable 30 = .ok (.iconst 1, 1) := by decide +kernel
theorem dX3_writable_31 : decode cX3_writable 31 = .ok (.invokevirtual 181, 3) := by decide +kernel
theorem dX3_writable_34 : decode cX3_writable 34 = .ok (.iconst (-1), 1) := by decide +kernel
theorem dX3_writable_35 : decode cX3_writable 35 = .ok (.if_icmp .eq 9, 3) := by decide +kernel
theorem dX3_writable_38 : decode cX3_writable 38 = .ok (.iinc 2 1, 3) := by decide +kernel
theorem dX3_writable_41 : decode cX3_writable 41 = .ok (.goto (-23), 3) := by decide +kernel
theorem dX3_writable_44 : decode cX3_writable 44 = .ok (.iload_n 2, 1) := by decide +kernel
theorem dX3_writable_45 : decode cX3_writable 45 = .ok (.ireturn, 1) := by decide +kernel
theorem dX3_requireProcess_0 : decode cX3_requireProcess 0 = .ok (.aload_n 0, 1) := by decide +kernel
theorem dX3_requireProcess_1 : decode cX3_requireProcess 1 = .ok (.getfield 19, 3) := by decide +kernel
theorem dX3_requireProcess_4 : decode cX3_requireProcess 4 = .ok (.iload_n 1, 1) := by decide +kernel
theorem dX3_requireProcess_5 : decode cX3_requireProcess 5 = .ok (.invokevirtual 271, 3) := by decide +kernel
theorem dX3_requireProcess_8 : decode cX3_requireProcess 8 = .ok (.ifCond .ne 14, 3) := by decide +kernel
theorem dX3_requireProcess_11 : decode cX3_requireProcess 11 = .ok (.new 143, 3) := by decide +kernel
theorem dX3_requireProcess_14 : decode cX3_requireProcess 14 = .ok (.dup, 1) := by decide +kernel
theorem dX3_requireProcess_15 : decode cX3_requireProcess 15 = .ok (.ldc_w 274, 3) := by decide +kernel
theorem dX3_requireProcess_18 : decode cX3_requireProcess 18 = .ok (.invokespecial 147, 3) := by decide +kernel
theorem dX3_requireProcess_21 : decode cX3_requireProcess 21 = .ok (.athrow, 1) := by decide +kernel
theorem dX3_requireProcess_22 : decode cX3_requireProcess 22 = .ok (.return_, 1) := by decide +kernel
theorem dX3_requirePage_0 : decode cX3_requirePage 0 = .ok (.aload_n 0, 1) := by decide +kernel
theorem dX3_requirePage_1 : decode cX3_requirePage 1 = .ok (.getfield 19, 3) := by decide +kernel
theorem dX3_requirePage_4 : decode cX3_requirePage 4 = .ok (.iload_n 1, 1) := by decide +kernel
theorem dX3_requirePage_5 : decode cX3_requirePage 5 = .ok (.iload_n 2, 1) := by decide +kernel
theorem dX3_requirePage_6 : decode cX3_requirePage 6 = .ok (.invokevirtual 276, 3) := by decide +kernel
theorem dX3_requirePage_9 : decode cX3_requirePage 9 = .ok (.ifCond .ne 14, 3) := by decide +kernel
theorem dX3_requirePage_12 : decode cX3_requirePage 12 = .ok (.new 143, 3) := by decide +kernel
theorem dX3_requirePage_15 : decode cX3_requirePage 15 = .ok (.dup, 1) := by decide +kernel
theorem dX3_requirePage_16 : decode cX3_requirePage 16 = .ok (.ldc_w 279, 3) := by decide +kernel
theorem dX3_requirePage_19 : decode cX3_requirePage 19 = .ok (.invokespecial 147, 3) := by decide +kernel
theorem dX3_requirePage_22 : decode cX3_requirePage 22 = .ok (.athrow, 1) := by decide +kernel
theorem dX3_requirePage_23 : decode cX3_requirePage 23 = .ok (.return_, 1) := by decide +kernel
theorem dX3_requireGroup_0 : decode cX3_requireGroup 0 = .ok (.aload_n 0, 1) := by decide +kernel
theorem dX3_requireGroup_1 : decode cX3_requireGroup 1 = .ok (.getfield 19, 3) := by decide +kernel
theorem dX3_requireGroup_4 : decode cX3_requireGroup 4 = .ok (.iload_n 1, 1) := by decide +kernel
theorem dX3_requireGroup_5 : decode cX3_requireGroup 5 = .ok (.iload_n 2, 1) := by decide +kernel
theorem dX3_requireGroup_6 : decode cX3_requireGroup 6 = .ok (.invokevirtual 281, 3) := by decide +kernel
theorem dX3_requireGroup_9 : decode cX3_requireGroup 9 = .ok (.ifCond .ne 14, 3) := by decide +kernel
theorem dX3_requireGroup_12 : decode cX3_requireGroup 12 = .ok (.new 143, 3) := by decide +kernel
theorem dX3_requireGroup_15 : decode cX3_requireGroup 15 = .ok (.dup, 1) := by decide +kernel
theorem dX3_requireGroup_16 : decode cX3_requireGroup 16 = .ok (.ldc_w 284, 3) := by decide +kernel
theorem dX3_requireGroup_19 : decode cX3_requireGroup 19 = .ok (.invokespecial 147, 3) := by decide +kernel
theorem dX3_requireGroup_22 : decode cX3_requireGroup 22 = .ok (.athrow, 1) := by decide +kernel
theorem dX3_requireGroup_23 : decode cX3_requireGroup 23 = .ok (.return_, 1) := by decide +kernel
theorem dJ6_bitCount_0f7a4_0 : decode cJ6_bitCount_0f7a4 0 = .ok (.iload_n 0, 1) := by decide +kernel
theorem dJ6_bitCount_0f7a4_1 : decode cJ6_bitCount_0f7a4 1 = .ok (.iload_n 0, 1) := by decide +kernel
theorem dJ6_bitCount_0f7a4_2 : decode cJ6_bitCount_0f7a4 2 = .ok (.iconst 1, 1) := by decide +kernel
theorem dJ6_bitCount_0f7a4_3 : decode cJ6_bitCount_0f7a4 3 = .ok (.iushr, 1) := by decide +kernel
theorem dJ6_bitCount_0f7a4_4 : decode cJ6_bitCount_0f7a4 4 = .ok (.ldc_w 265, 3) := by decide +kernel
theorem dJ6_bitCount_0f7a4_7 : decode cJ6_bitCount_0f7a4 7 = .ok (.iand, 1) := by decide +kernel
theorem dJ6_bitCount_0f7a4_8 : decode cJ6_bitCount_0f7a4 8 = .ok (.isub, 1) := by decide +kernel
theorem dJ6_bitCount_0f7a4_9 : decode cJ6_bitCount_0f7a4 9 = .ok (.istore_n 0, 1) := by decide +kernel
theorem dJ6_bitCount_0f7a4_10 : decode cJ6_bitCount_0f7a4 10 = .ok (.iload_n 0, 1) := by decide +kernel
theorem dJ6_bitCount_0f7a4_11 : decode cJ6_bitCount_0f7a4 11 = .ok (.ldc_w 266, 3) := by decide +kernel
theorem dJ6_bitCount_0f7a4_14 : decode cJ6_bitCount_0f7a4 14 = .ok (.iand, 1) := by decide +kernel
theorem dJ6_bitCount_0f7a4_15 : decode cJ6_bitCount_0f7a4 15 = .ok (.iload_n 0, 1) := by decide +kernel
theorem dJ6_bitCount_0f7a4_16 : decode cJ6_bitCount_0f7a4 16 = .ok (.iconst 2, 1) := by decide +kernel
theorem dJ6_bitCount_0f7a4_17 : decode cJ6_bitCount_0f7a4 17 = .ok (.iushr, 1) := by decide +kernel
theorem dJ6_bitCount_0f7a4_18 : decode cJ6_bitCount_0f7a4 18 = .ok (.ldc_w 266, 3) := by decide +kernel
theorem dJ6_bitCount_0f7a4_21 : decode cJ6_bitCount_0f7a4 21 = .ok (.iand, 1) := by decide +kernel
theorem dJ6_bitCount_0f7a4_22 : decode cJ6_bitCount_0f7a4 22 = .ok (.iadd, 1) := by decide +kernel
theorem dJ6_bitCount_0f7a4_23 : decode cJ6_bitCount_0f7a4 23 = .ok (.istore_n 0, 1) := by decide +kernel
theorem dJ6_bitCount_0f7a4_24 : decode cJ6_bitCount_0f7a4 24 = .ok (.iload_n 0, 1) := by decide +kernel
theorem dJ6_bitCount_0f7a4_25 : decode cJ6_bitCount_0f7a4 25 = .ok (.iload_n 0, 1) := by decide +kernel
theorem dJ6_bitCount_0f7a4_26 : decode cJ6_bitCount_0f7a4 26 = .ok (.iconst 4, 1) := by decide +kernel
theorem dJ6_bitCount_0f7a4_27 : decode cJ6_bitCount_0f7a4 27 = .ok (.iushr, 1) := by decide +kernel
theorem dJ6_bitCount_0f7a4_28 : decode cJ6_bitCount_0f7a4 28 = .ok (.iadd, 1) := by decide +kernel
theorem dJ6_bitCount_0f7a4_29 : decode cJ6_bitCount_0f7a4 29 = .ok (.ldc_w 267, 3) := by decide +kernel
theorem dJ6_bitCount_0f7a4_32 : decode cJ6_bitCount_0f7a4 32 = .ok (.iand, 1) := by decide +kernel
theorem dJ6_bitCount_0f7a4_33 : decode cJ6_bitCount_0f7a4 33 = .ok (.istore_n 0, 1) := by decide +kernel
theorem dJ6_bitCount_0f7a4_34 : decode cJ6_bitCount_0f7a4 34 = .ok (.iload_n 0, 1) := by decide +kernel
theorem dJ6_bitCount_0f7a4_35 : decode cJ6_bitCount_0f7a4 35 = .ok (.iload_n 0, 1) := by decide +kernel
theorem dJ6_bitCount_0f7a4_36 : decode cJ6_bitCount_0f7a4 36 = .ok (.bipush 8, 2) := by decide +kernel
theorem dJ6_bitCount_0f7a4_38 : decode cJ6_bitCount_0f7a4 38 = .ok (.iushr, 1) := by decide +kernel
theorem dJ6_bitCount_0f7a4_39 : decode cJ6_bitCount_0f7a4 39 = .ok (.iadd, 1) := by decide +kernel
theorem dJ6_bitCount_0f7a4_40 : decode cJ6_bitCount_0f7a4 40 = .ok (.istore_n 0, 1) := by decide +kernel
theorem dJ6_bitCount_0f7a4_41 : decode cJ6_bitCount_0f7a4 41 = .ok (.iload_n 0, 1) := by decide +kernel
theorem dJ6_bitCount_0f7a4_42 : decode cJ6_bitCount_0f7a4 42 = .ok (.iload_n 0, 1) := by decide +kernel
theorem dJ6_bitCount_0f7a4_43 : decode cJ6_bitCount_0f7a4 43 = .ok (.bipush 16, 2) := by decide +kernel
theorem dJ6_bitCount_0f7a4_45 : decode cJ6_bitCount_0f7a4 45 = .ok (.iushr, 1) := by decide +kernel
theorem dJ6_bitCount_0f7a4_46 : decode cJ6_bitCount_0f7a4 46 = .ok (.iadd, 1) := by decide +kernel
theorem dJ6_bitCount_0f7a4_47 : decode cJ6_bitCount_0f7a4 47 = .ok (.istore_n 0, 1) := by decide +kernel
theorem dJ6_bitCount_0f7a4_48 : decode cJ6_bitCount_0f7a4 48 = .ok (.iload_n 0, 1) := by decide +kernel
theorem dJ6_bitCount_0f7a4_49 : decode cJ6_bitCount_0f7a4 49 = .ok (.bipush 63, 2) := by decide +kernel
theorem dJ6_bitCount_0f7a4_51 : decode cJ6_bitCount_0f7a4 51 = .ok (.iand, 1) := by decide +kernel
theorem dJ6_bitCount_0f7a4_52 : decode cJ6_bitCount_0f7a4 52 = .ok (.ireturn, 1) := by decide +kernel
theorem dJ9_min_7cf53_0 : decode cJ9_min_7cf53 0 = .ok (.iload_n 0, 1) := by decide +kernel
theorem dJ9_min_7cf53_1 : decode cJ9_min_7cf53 1 = .ok (.iload_n 1, 1) := by decide +kernel
theorem dJ9_min_7cf53_2 : decode cJ9_min_7cf53 2 = .ok (.if_icmp .gt 7, 3) := by decide +kernel
theorem dJ9_min_7cf53_5 : decode cJ9_min_7cf53 5 = .ok (.iload_n 0, 1) := by decide +kernel
theorem dJ9_min_7cf53_6 : decode cJ9_min_7cf53 6 = .ok (.goto 4, 3) := by decide +kernel
theorem dJ9_min_7cf53_9 : decode cJ9_min_7cf53 9 = .ok (.iload_n 1, 1) := by decide +kernel
theorem dJ9_min_7cf53_10 : decode cJ9_min_7cf53 10 = .ok (.ireturn, 1) := by decide +kernel
theorem dL_cell_0 : decode cL_cell 0 = .ok (.iload_n 1, 1) := by decide +kernel
theorem dL_cell_1 : decode cL_cell 1 = .ok (.aload_n 0, 1) := by decide +kernel
theorem dL_cell_2 : decode cL_cell 2 = .ok (.arraylength, 1) := by decide +kernel
theorem dL_cell_3 : decode cL_cell 3 = .ok (.if_icmp .ge 9, 3) := by decide +kernel
theorem dL_cell_6 : decode cL_cell 6 = .ok (.aload_n 0, 1) := by decide +kernel
theorem dL_cell_7 : decode cL_cell 7 = .ok (.iload_n 1, 1) := by decide +kernel
theorem dL_cell_8 : decode cL_cell 8 = .ok (.iaload, 1) := by decide +kernel
theorem dL_cell_9 : decode cL_cell 9 = .ok (.goto 12, 3) := by decide +kernel
theorem dL_cell_12 : decode cL_cell 12 = .ok (.ldc 7, 2) := by decide +kernel
theorem dL_cell_14 : decode cL_cell 14 = .ok (.iload_n 1, 1) := by decide +kernel
theorem dL_cell_15 : decode cL_cell 15 = .ok (.iconst 1, 1) := by decide +kernel
theorem dL_cell_16 : decode cL_cell 16 = .ok (.iadd, 1) := by decide +kernel
theorem dL_cell_17 : decode cL_cell 17 = .ok (.imul, 1) := by decide +kernel
theorem dL_cell_18 : decode cL_cell 18 = .ok (.ldc 8, 2) := by decide +kernel
theorem dL_cell_20 : decode cL_cell 20 = .ok (.iadd, 1) := by decide +kernel
theorem dL_cell_21 : decode cL_cell 21 = .ok (.ireturn, 1) := by decide +kernel
theorem dL_low_0 : decode cL_low 0 = .ok (.iload_n 0, 1) := by decide +kernel
theorem dL_low_1 : decode cL_low 1 = .ok (.ldc 9, 2) := by decide +kernel
theorem dL_low_3 : decode cL_low 3 = .ok (.iand, 1) := by decide +kernel
theorem dL_low_4 : decode cL_low 4 = .ok (.iload_n 1, 1) := by decide +kernel
theorem dL_low_5 : decode cL_low 5 = .ok (.irem, 1) := by decide +kernel
theorem dL_low_6 : decode cL_low 6 = .ok (.ireturn, 1) := by decide +kernel
theorem dL_write_0 : decode cL_write 0 = .ok (.aload_n 0, 1) := by decide +kernel
theorem dL_write_1 : decode cL_write 1 = .ok (.iload_n 1, 1) := by decide +kernel
theorem dL_write_2 : decode cL_write 2 = .ok (.iload_n 2, 1) := by decide +kernel
theorem dL_write_3 : decode cL_write 3 = .ok (.iload_n 3, 1) := by decide +kernel
theorem dL_write_4 : decode cL_write 4 = .ok (.invokevirtual 10, 3) := by decide +kernel
theorem dL_write_7 : decode cL_write 7 = .ok (.ireturn, 1) := by decide +kernel
theorem dL_write_8 : decode cL_write 8 = .ok (.astore 4, 2) := by decide +kernel
theorem dL_write_10 : decode cL_write 10 = .ok (.iconst (-1), 1) := by decide +kernel
theorem dL_write_11 : decode cL_write 11 = .ok (.ireturn, 1) := by decide +kernel
theorem dL_write_12 : decode cL_write 12 = .ok (.astore 4, 2) := by decide +kernel
theorem dL_write_14 : decode cL_write 14 = .ok (.bipush (-2), 2) := by decide +kernel
theorem dL_write_16 : decode cL_write 16 = .ok (.ireturn, 1) := by decide +kernel
theorem dL_write_17 : decode cL_write 17 = .ok (.astore 4, 2) := by decide +kernel
theorem dL_write_19 : decode cL_write 19 = .ok (.bipush (-3), 2) := by decide +kernel
theorem dL_write_21 : decode cL_write 21 = .ok (.ireturn, 1) := by decide +kernel
theorem dL_fork_0 : decode cL_fork 0 = .ok (.aload_n 0, 1) := by decide +kernel
theorem dL_fork_1 : decode cL_fork 1 = .ok (.iload_n 1, 1) := by decide +kernel
theorem dL_fork_2 : decode cL_fork 2 = .ok (.invokevirtual 22, 3) := by decide +kernel
theorem dL_fork_5 : decode cL_fork 5 = .ok (.ireturn, 1) := by decide +kernel
theorem dL_fork_6 : decode cL_fork 6 = .ok (.astore_n 2, 1) := by decide +kernel
theorem dL_fork_7 : decode cL_fork 7 = .ok (.iconst (-1), 1) := by decide +kernel
theorem dL_fork_8 : decode cL_fork 8 = .ok (.ireturn, 1) := by decide +kernel
theorem dL_fork_9 : decode cL_fork 9 = .ok (.astore_n 2, 1) := by decide +kernel
theorem dL_fork_10 : decode cL_fork 10 = .ok (.bipush (-2), 2) := by decide +kernel
theorem dL_fork_12 : decode cL_fork 12 = .ok (.ireturn, 1) := by decide +kernel
theorem dL_exit_0 : decode cL_exit 0 = .ok (.aload_n 0, 1) := by decide +kernel
theorem dL_exit_1 : decode cL_exit 1 = .ok (.iload_n 1, 1) := by decide +kernel
theorem dL_exit_2 : decode cL_exit 2 = .ok (.invokevirtual 26, 3) := by decide +kernel
theorem dL_exit_5 : decode cL_exit 5 = .ok (.ireturn, 1) := by decide +kernel
theorem dL_exit_6 : decode cL_exit 6 = .ok (.astore_n 2, 1) := by decide +kernel
theorem dL_exit_7 : decode cL_exit 7 = .ok (.iconst (-1), 1) := by decide +kernel
theorem dL_exit_8 : decode cL_exit 8 = .ok (.ireturn, 1) := by decide +kernel
theorem dL_exit_9 : decode cL_exit 9 = .ok (.astore_n 2, 1) := by decide +kernel
theorem dL_exit_10 : decode cL_exit 10 = .ok (.bipush (-2), 2) := by decide +kernel
theorem dL_exit_12 : decode cL_exit 12 = .ok (.ireturn, 1) := by decide +kernel
theorem dL_marry_0 : decode cL_marry 0 = .ok (.aload_n 0, 1) := by decide +kernel
theorem dL_marry_1 : decode cL_marry 1 = .ok (.iload_n 1, 1) := by decide +kernel
theorem dL_marry_2 : decode cL_marry 2 = .ok (.iload_n 2, 1) := by decide +kernel
theorem dL_marry_3 : decode cL_marry 3 = .ok (.invokevirtual 29, 3) := by decide +kernel
theorem dL_marry_6 : decode cL_marry 6 = .ok (.ireturn, 1) := by decide +kernel
theorem dL_marry_7 : decode cL_marry 7 = .ok (.astore_n 3, 1) := by decide +kernel
theorem dL_marry_8 : decode cL_marry 8 = .ok (.iconst (-1), 1) := by decide +kernel
theorem dL_marry_9 : decode cL_marry 9 = .ok (.ireturn, 1) := by decide +kernel
theorem dL_marry_10 : decode cL_marry 10 = .ok (.astore_n 3, 1) := by decide +kernel
theorem dL_marry_11 : decode cL_marry 11 = .ok (.bipush (-2), 2) := by decide +kernel
theorem dL_marry_13 : decode cL_marry 13 = .ok (.ireturn, 1) := by decide +kernel
theorem dL_tear_0 : decode cL_tear 0 = .ok (.aload_n 0, 1) := by decide +kernel
theorem dL_tear_1 : decode cL_tear 1 = .ok (.iload_n 1, 1) := by decide +kernel
theorem dL_tear_2 : decode cL_tear 2 = .ok (.iload_n 2, 1) := by decide +kernel
theorem dL_tear_3 : decode cL_tear 3 = .ok (.invokevirtual 33, 3) := by decide +kernel
theorem dL_tear_6 : decode cL_tear 6 = .ok (.ireturn, 1) := by decide +kernel
theorem dL_tear_7 : decode cL_tear 7 = .ok (.astore_n 3, 1) := by decide +kernel
theorem dL_tear_8 : decode cL_tear 8 = .ok (.iconst (-1), 1) := by decide +kernel
theorem dL_tear_9 : decode cL_tear 9 = .ok (.ireturn, 1) := by decide +kernel
theorem dL_tear_10 : decode cL_tear 10 = .ok (.astore_n 3, 1) := by decide +kernel
theorem dL_tear_11 : decode cL_tear 11 = .ok (.bipush (-2), 2) := by decide +kernel
theorem dL_tear_13 : decode cL_tear 13 = .ok (.ireturn, 1) := by decide +kernel
theorem dL_frame_0 : decode cL_frame 0 = .ok (.iconst 0, 1) := by decide +kernel
theorem dL_frame_1 : decode cL_frame 1 = .ok (.istore_n 2, 1) := by decide +kernel
theorem dL_frame_2 : decode cL_frame 2 = .ok (.iload_n 2, 1) := by decide +kernel
theorem dL_frame_3 : decode cL_frame 3 = .ok (.bipush 32, 2) := by decide +kernel
theorem dL_frame_5 : decode cL_frame 5 = .ok (.if_icmp .ge 23, 3) := by decide +kernel
theorem dL_frame_8 : decode cL_frame 8 = .ok (.aload_n 1, 1) := by decide +kernel
theorem dL_frame_9 : decode cL_frame 9 = .ok (.iload_n 2, 1) := by decide +kernel
theorem dL_frame_10 : decode cL_frame 10 = .ok (.laload, 1) := by decide +kernel
theorem dL_frame_11 : decode cL_frame 11 = .ok (.iload_n 0, 1) := by decide +kernel
theorem dL_frame_12 : decode cL_frame 12 = .ok (.lshr, 1) := by decide +kernel
theorem dL_frame_13 : decode cL_frame 13 = .ok (.lconst 1, 1) := by decide +kernel
theorem dL_frame_14 : decode cL_frame 14 = .ok (.land, 1) := by decide +kernel
theorem dL_frame_15 : decode cL_frame 15 = .ok (.lconst 1, 1) := by decide +kernel
theorem dL_frame_16 : decode cL_frame 16 = .ok (.lcmp, 1) := by decide +kernel
theorem dL_frame_17 : decode cL_frame 17 = .ok (.ifCond .ne 5, 3) := by decide +kernel
theorem dL_frame_20 : decode cL_frame 20 = .ok (.iload_n 2, 1) := by decide +kernel
theorem dL_frame_21 : decode cL_frame 21 = .ok (.ireturn, 1) := by decide +kernel
theorem dL_frame_22 : decode cL_frame 22 = .ok (.iinc 2 1, 3) := by decide +kernel
theorem dL_frame_25 : decode cL_frame 25 = .ok (.goto (-23), 3) := by decide +kernel
theorem dL_frame_28 : decode cL_frame 28 = .ok (.iconst (-1), 1) := by decide +kernel
theorem dL_frame_29 : decode cL_frame 29 = .ok (.ireturn, 1) := by decide +kernel
theorem dL_one_0 : decode cL_one 0 = .ok (.lload_n 0, 1) := by decide +kernel
theorem dL_one_1 : decode cL_one 1 = .ok (.lconst 0, 1) := by decide +kernel
theorem dL_one_2 : decode cL_one 2 = .ok (.lcmp, 1) := by decide +kernel
theorem dL_one_3 : decode cL_one 3 = .ok (.ifCond .eq 17, 3) := by decide +kernel
theorem dL_one_6 : decode cL_one 6 = .ok (.lload_n 0, 1) := by decide +kernel
theorem dL_one_7 : decode cL_one 7 = .ok (.lload_n 0, 1) := by decide +kernel
theorem dL_one_8 : decode cL_one 8 = .ok (.lconst 1, 1) := by decide +kernel
theorem dL_one_9 : decode cL_one 9 = .ok (.lsub, 1) := by decide +kernel
theorem dL_one_10 : decode cL_one 10 = .ok (.land, 1) := by decide +kernel
theorem dL_one_11 : decode cL_one 11 = .ok (.lconst 0, 1) := by decide +kernel
theorem dL_one_12 : decode cL_one 12 = .ok (.lcmp, 1) := by decide +kernel
theorem dL_one_13 : decode cL_one 13 = .ok (.ifCond .ne 7, 3) := by decide +kernel
theorem dL_one_16 : decode cL_one 16 = .ok (.iconst 1, 1) := by decide +kernel
theorem dL_one_17 : decode cL_one 17 = .ok (.goto 4, 3) := by decide +kernel
theorem dL_one_20 : decode cL_one 20 = .ok (.iconst 0, 1) := by decide +kernel
theorem dL_one_21 : decode cL_one 21 = .ok (.ireturn, 1) := by decide +kernel
theorem dL_freeRun_0 : decode cL_freeRun 0 = .ok (.aload_n 1, 1) := by decide +kernel
theorem dL_freeRun_1 : decode cL_freeRun 1 = .ok (.iconst 4, 1) := by decide +kernel
theorem dL_freeRun_2 : decode cL_freeRun 2 = .ok (.iload_n 0, 1) := by decide +kernel
theorem dL_freeRun_3 : decode cL_freeRun 3 = .ok (.imul, 1) := by decide +kernel
theorem dL_freeRun_4 : decode cL_freeRun 4 = .ok (.laload, 1) := by decide +kernel
theorem dL_freeRun_5 : decode cL_freeRun 5 = .ok (.aload_n 1, 1) := by decide +kernel
theorem dL_freeRun_6 : decode cL_freeRun 6 = .ok (.iconst 4, 1) := by decide +kernel
theorem dL_freeRun_7 : decode cL_freeRun 7 = .ok (.iload_n 0, 1) := by decide +kernel
theorem dL_freeRun_8 : decode cL_freeRun 8 = .ok (.imul, 1) := by decide +kernel
theorem dL_freeRun_9 : decode cL_freeRun 9 = .ok (.iconst 1, 1) := by decide +kernel
theorem dL_freeRun_10 : decode cL_freeRun 10 = .ok (.iadd, 1) := by decide +kernel
theorem dL_freeRun_11 : decode cL_freeRun 11 = .ok (.laload, 1) := by decide +kernel
theorem dL_freeRun_12 : decode cL_freeRun 12 = .ok (.lor, 1) := by decide +kernel
theorem dL_freeRun_13 : decode cL_freeRun 13 = .ok (.aload_n 1, 1) := by decide +kernel
theorem dL_freeRun_14 : decode cL_freeRun 14 = .ok (.iconst 4, 1) := by decide +kernel
theorem dL_freeRun_15 : decode cL_freeRun 15 = .ok (.iload_n 0, 1) := by decide +kernel
theorem dL_freeRun_16 : decode cL_freeRun 16 = .ok (.imul, 1) := by decide +kernel
theorem dL_freeRun_17 : decode cL_freeRun 17 = .ok (.iconst 2, 1) := by decide +kernel
theorem dL_freeRun_18 : decode cL_freeRun 18 = .ok (.iadd, 1) := by decide +kernel
theorem dL_freeRun_19 : decode cL_freeRun 19 = .ok (.laload, 1) := by decide +kernel
theorem dL_freeRun_20 : decode cL_freeRun 20 = .ok (.lor, 1) := by decide +kernel
theorem dL_freeRun_21 : decode cL_freeRun 21 = .ok (.aload_n 1, 1) := by decide +kernel
theorem dL_freeRun_22 : decode cL_freeRun 22 = .ok (.iconst 4, 1) := by decide +kernel
theorem dL_freeRun_23 : decode cL_freeRun 23 = .ok (.iload_n 0, 1) := by decide +kernel
theorem dL_freeRun_24 : decode cL_freeRun 24 = .ok (.imul, 1) := by decide +kernel
theorem dL_freeRun_25 : decode cL_freeRun 25 = .ok (.iconst 3, 1) := by decide +kernel
theorem dL_freeRun_26 : decode cL_freeRun 26 = .ok (.iadd, 1) := by decide +kernel
theorem dL_freeRun_27 : decode cL_freeRun 27 = .ok (.laload, 1) := by decide +kernel
theorem dL_freeRun_28 : decode cL_freeRun 28 = .ok (.lor, 1) := by decide +kernel
theorem dL_freeRun_29 : decode cL_freeRun 29 = .ok (.lconst 0, 1) := by decide +kernel
theorem dL_freeRun_30 : decode cL_freeRun 30 = .ok (.lcmp, 1) := by decide +kernel
theorem dL_freeRun_31 : decode cL_freeRun 31 = .ok (.ifCond .ne 7, 3) := by decide +kernel
theorem dL_freeRun_34 : decode cL_freeRun 34 = .ok (.iconst 1, 1) := by decide +kernel
theorem dL_freeRun_35 : decode cL_freeRun 35 = .ok (.goto 4, 3) := by decide +kernel
theorem dL_freeRun_38 : decode cL_freeRun 38 = .ok (.iconst 0, 1) := by decide +kernel
theorem dL_freeRun_39 : decode cL_freeRun 39 = .ok (.ireturn, 1) := by decide +kernel
theorem dL_run_0 : decode cL_run 0 = .ok (.iconst 0, 1) := by decide +kernel
theorem dL_run_1 : decode cL_run 1 = .ok (.istore_n 1, 1) := by decide +kernel
theorem dL_run_2 : decode cL_run 2 = .ok (.iload_n 1, 1) := by decide +kernel
theorem dL_run_3 : decode cL_run 3 = .ok (.bipush 8, 2) := by decide +kernel
theorem dL_run_5 : decode cL_run 5 = .ok (.if_icmp .ge 19, 3) := by decide +kernel
theorem dL_run_8 : decode cL_run 8 = .ok (.iload_n 1, 1) := by decide +kernel
theorem dL_run_9 : decode cL_run 9 = .ok (.aload_n 0, 1) := by decide +kernel
theorem dL_run_10 : decode cL_run 10 = .ok (.invokestatic 36, 3) := by decide +kernel
theorem dL_run_13 : decode cL_run 13 = .ok (.ifCond .eq 5, 3) := by decide +kernel
theorem dL_run_16 : decode cL_run 16 = .ok (.iload_n 1, 1) := by decide +kernel
theorem dL_run_17 : decode cL_run 17 = .ok (.ireturn, 1) := by decide +kernel
theorem dL_run_18 : decode cL_run 18 = .ok (.iinc 1 1, 3) := by decide +kernel
theorem dL_run_21 : decode cL_run 21 = .ok (.goto (-19), 3) := by decide +kernel
theorem dL_run_24 : decode cL_run 24 = .ok (.iconst (-1), 1) := by decide +kernel
theorem dL_run_25 : decode cL_run 25 = .ok (.ireturn, 1) := by decide +kernel
theorem dL_single_0 : decode cL_single 0 = .ok (.iconst 0, 1) := by decide +kernel
theorem dL_single_1 : decode cL_single 1 = .ok (.istore_n 1, 1) := by decide +kernel
theorem dL_single_2 : decode cL_single 2 = .ok (.iload_n 1, 1) := by decide +kernel
theorem dL_single_3 : decode cL_single 3 = .ok (.bipush 32, 2) := by decide +kernel
theorem dL_single_5 : decode cL_single 5 = .ok (.if_icmp .ge 29, 3) := by decide +kernel
theorem dL_single_8 : decode cL_single 8 = .ok (.aload_n 0, 1) := by decide +kernel
theorem dL_single_9 : decode cL_single 9 = .ok (.iload_n 1, 1) := by decide +kernel
theorem dL_single_10 : decode cL_single 10 = .ok (.laload, 1) := by decide +kernel
theorem dL_single_11 : decode cL_single 11 = .ok (.lconst 0, 1) := by decide +kernel
theorem dL_single_12 : decode cL_single 12 = .ok (.lcmp, 1) := by decide +kernel
theorem dL_single_13 : decode cL_single 13 = .ok (.ifCond .ne 15, 3) := by decide +kernel
theorem dL_single_16 : decode cL_single 16 = .ok (.iload_n 1, 1) := by decide +kernel
theorem dL_single_17 : decode cL_single 17 = .ok (.iconst 4, 1) := by decide +kernel
theorem dL_single_18 : decode cL_single 18 = .ok (.idiv, 1) := by decide +kernel
theorem dL_single_19 : decode cL_single 19 = .ok (.aload_n 0, 1) := by decide +kernel
theorem dL_single_20 : decode cL_single 20 = .ok (.invokestatic 36, 3) := by decide +kernel
theorem dL_single_23 : decode cL_single 23 = .ok (.ifCond .ne 5, 3) := by decide +kernel
theorem dL_single_26 : decode cL_single 26 = .ok (.iload_n 1, 1) := by decide +kernel
theorem dL_single_27 : decode cL_single 27 = .ok (.ireturn, 1) := by decide +kernel
theorem dL_single_28 : decode cL_single 28 = .ok (.iinc 1 1, 3) := by decide +kernel
theorem dL_single_31 : decode cL_single 31 = .ok (.goto (-29), 3) := by decide +kernel
theorem dL_single_34 : decode cL_single 34 = .ok (.aload_n 0, 1) := by decide +kernel
theorem dL_single_35 : decode cL_single 35 = .ok (.invokestatic 42, 3) := by decide +kernel
theorem dL_single_38 : decode cL_single 38 = .ok (.istore_n 1, 1) := by decide +kernel
theorem dL_single_39 : decode cL_single 39 = .ok (.iload_n 1, 1) := by decide +kernel
theorem dL_single_40 : decode cL_single 40 = .ok (.ifCond .ge 7, 3) := by decide +kernel
theorem dL_single_43 : decode cL_single 43 = .ok (.iconst (-1), 1) := by decide +kernel
theorem dL_single_44 : decode cL_single 44 = .ok (.goto 6, 3) := by decide +kernel
theorem dL_single_47 : decode cL_single 47 = .ok (.iconst 4, 1) := by decide +kernel
theorem dL_single_48 : decode cL_single 48 = .ok (.iload_n 1, 1) := by decide +kernel
theorem dL_single_49 : decode cL_single 49 = .ok (.imul, 1) := by decide +kernel
theorem dL_single_50 : decode cL_single 50 = .ok (.ireturn, 1) := by decide +kernel
theorem dL_free_0 : decode cL_free 0 = .ok (.iconst 0, 1) := by decide +kernel
theorem dL_free_1 : decode cL_free 1 = .ok (.istore_n 1, 1) := by decide +kernel
theorem dL_free_2 : decode cL_free 2 = .ok (.iconst 0, 1) := by decide +kernel
theorem dL_free_3 : decode cL_free 3 = .ok (.istore_n 2, 1) := by decide +kernel
theorem dL_free_4 : decode cL_free 4 = .ok (.iload_n 2, 1) := by decide +kernel
theorem dL_free_5 : decode cL_free 5 = .ok (.bipush 32, 2) := by decide +kernel
theorem dL_free_7 : decode cL_free 7 = .ok (.if_icmp .ge 25, 3) := by decide +kernel
theorem dL_free_10 : decode cL_free 10 = .ok (.iload_n 1, 1) := by decide +kernel
theorem dL_free_11 : decode cL_free 11 = .ok (.aload_n 0, 1) := by decide +kernel
theorem dL_free_12 : decode cL_free 12 = .ok (.iload_n 2, 1) := by decide +kernel
theorem dL_free_13 : decode cL_free 13 = .ok (.laload, 1) := by decide +kernel
theorem dL_free_14 : decode cL_free 14 = .ok (.lconst 0, 1) := by decide +kernel
theorem dL_free_15 : decode cL_free 15 = .ok (.lcmp, 1) := by decide +kernel
theorem dL_free_16 : decode cL_free 16 = .ok (.ifCond .ne 7, 3) := by decide +kernel
theorem dL_free_19 : decode cL_free 19 = .ok (.iconst 1, 1) := by decide +kernel
theorem dL_free_20 : decode cL_free 20 = .ok (.goto 4, 3) := by decide +kernel
theorem dL_free_23 : decode cL_free 23 = .ok (.iconst 0, 1) := by decide +kernel
theorem dL_free_24 : decode cL_free 24 = .ok (.iadd, 1) := by decide +kernel
theorem dL_free_25 : decode cL_free 25 = .ok (.istore_n 1, 1) := by decide +kernel
theorem dL_free_26 : decode cL_free 26 = .ok (.iinc 2 1, 3) := by decide +kernel
theorem dL_free_29 : decode cL_free 29 = .ok (.goto (-25), 3) := by decide +kernel
theorem dL_free_32 : decode cL_free 32 = .ok (.iload_n 1, 1) := by decide +kernel
theorem dL_free_33 : decode cL_free 33 = .ok (.ireturn, 1) := by decide +kernel
theorem dL_empty_0 : decode cL_empty 0 = .ok (.iconst 1, 1) := by decide +kernel
theorem dL_empty_1 : decode cL_empty 1 = .ok (.istore_n 2, 1) := by decide +kernel
theorem dL_empty_2 : decode cL_empty 2 = .ok (.iconst 4, 1) := by decide +kernel
theorem dL_empty_3 : decode cL_empty 3 = .ok (.iload_n 0, 1) := by decide +kernel
theorem dL_empty_4 : decode cL_empty 4 = .ok (.imul, 1) := by decide +kernel
theorem dL_empty_5 : decode cL_empty 5 = .ok (.istore_n 3, 1) := by decide +kernel
theorem dL_empty_6 : decode cL_empty 6 = .ok (.iload_n 3, 1) := by decide +kernel
theorem dL_empty_7 : decode cL_empty 7 = .ok (.iconst 4, 1) := by decide +kernel
theorem dL_empty_8 : decode cL_empty 8 = .ok (.iload_n 0, 1) := by decide +kernel
theorem dL_empty_9 : decode cL_empty 9 = .ok (.imul, 1) := by decide +kernel
theorem dL_empty_10 : decode cL_empty 10 = .ok (.iconst 4, 1) := by decide +kernel
theorem dL_empty_11 : decode cL_empty 11 = .ok (.iadd, 1) := by decide +kernel
theorem dL_empty_12 : decode cL_empty 12 = .ok (.if_icmp .ge 27, 3) := by decide +kernel
theorem dL_empty_15 : decode cL_empty 15 = .ok (.iload_n 2, 1) := by decide +kernel
theorem dL_empty_16 : decode cL_empty 16 = .ok (.ifCond .eq 15, 3) := by decide +kernel
theorem dL_empty_19 : decode cL_empty 19 = .ok (.iload_n 3, 1) := by decide +kernel
theorem dL_empty_20 : decode cL_empty 20 = .ok (.aload_n 1, 1) := by decide +kernel
theorem dL_empty_21 : decode cL_empty 21 = .ok (.invokestatic 46, 3) := by decide +kernel
theorem dL_empty_24 : decode cL_empty 24 = .ok (.ifCond .ge 7, 3) := by decide +kernel
theorem dL_empty_27 : decode cL_empty 27 = .ok (.iconst 1, 1) := by decide +kernel
theorem dL_empty_28 : decode cL_empty 28 = .ok (.goto 4, 3) := by decide +kernel
theorem dL_empty_31 : decode cL_empty 31 = .ok (.iconst 0, 1) := by decide +kernel
theorem dL_empty_32 : decode cL_empty 32 = .ok (.istore_n 2, 1) := by decide +kernel
theorem dL_empty_33 : decode cL_empty 33 = .ok (.iinc 3 1, 3) := by decide +kernel
theorem dL_empty_36 : decode cL_empty 36 = .ok (.goto (-30), 3) := by decide +kernel
theorem dL_empty_39 : decode cL_empty 39 = .ok (.iload_n 2, 1) := by decide +kernel
theorem dL_empty_40 : decode cL_empty 40 = .ok (.ireturn, 1) := by decide +kernel
theorem dL_would_0 : decode cL_would 0 = .ok (.iload_n 0, 1) := by decide +kernel
theorem dL_would_1 : decode cL_would 1 = .ok (.aload_n 2, 1) := by decide +kernel
theorem dL_would_2 : decode cL_would 2 = .ok (.invokestatic 46, 3) := by decide +kernel
theorem dL_would_5 : decode cL_would 5 = .ok (.istore_n 3, 1) := by decide +kernel
theorem dL_would_6 : decode cL_would 6 = .ok (.iload_n 3, 1) := by decide +kernel
theorem dL_would_7 : decode cL_would 7 = .ok (.ifCond .lt 14, 3) := by decide +kernel
theorem dL_would_10 : decode cL_would 10 = .ok (.aload_n 2, 1) := by decide +kernel
theorem dL_would_11 : decode cL_would 11 = .ok (.iload_n 3, 1) := by decide +kernel
theorem dL_would_12 : decode cL_would 12 = .ok (.laload, 1) := by decide +kernel
theorem dL_would_13 : decode cL_would 13 = .ok (.invokestatic 50, 3) := by decide +kernel
theorem dL_would_16 : decode cL_would 16 = .ok (.ifCond .eq 5, 3) := by decide +kernel
theorem dL_would_19 : decode cL_would 19 = .ok (.iconst 0, 1) := by decide +kernel
theorem dL_would_20 : decode cL_would 20 = .ok (.ireturn, 1) := by decide +kernel
theorem dL_would_21 : decode cL_would 21 = .ok (.iload_n 3, 1) := by decide +kernel
theorem dL_would_22 : decode cL_would 22 = .ok (.ifCond .ge 32, 3) := by decide +kernel
theorem dL_would_25 : decode cL_would 25 = .ok (.aload_n 1, 1) := by decide +kernel
theorem dL_would_26 : decode cL_would 26 = .ok (.bipush 6, 2) := by decide +kernel
theorem dL_would_28 : decode cL_would 28 = .ok (.iaload, 1) := by decide +kernel
theorem dL_would_29 : decode cL_would 29 = .ok (.iconst 1, 1) := by decide +kernel
theorem dL_would_30 : decode cL_would 30 = .ok (.if_icmp .ne 24, 3) := by decide +kernel
theorem dL_would_33 : decode cL_would 33 = .ok (.iload_n 0, 1) := by decide +kernel
theorem dL_would_34 : decode cL_would 34 = .ok (.iconst 4, 1) := by decide +kernel
theorem dL_would_35 : decode cL_would 35 = .ok (.idiv, 1) := by decide +kernel
theorem dL_would_36 : decode cL_would 36 = .ok (.aload_n 2, 1) := by decide +kernel
theorem dL_would_37 : decode cL_would 37 = .ok (.invokestatic 54, 3) := by decide +kernel
theorem dL_would_40 : decode cL_would 40 = .ok (.ifCond .eq 14, 3) := by decide +kernel
theorem dL_would_43 : decode cL_would 43 = .ok (.aload_n 2, 1) := by decide +kernel
theorem dL_would_44 : decode cL_would 44 = .ok (.invokestatic 42, 3) := by decide +kernel
theorem dL_would_47 : decode cL_would 47 = .ok (.ifCond .lt 7, 3) := by decide +kernel
theorem dL_would_50 : decode cL_would 50 = .ok (.iconst 1, 1) := by decide +kernel
theorem dL_would_51 : decode cL_would 51 = .ok (.goto 4, 3) := by decide +kernel
theorem dL_would_54 : decode cL_would 54 = .ok (.iconst 0, 1) := by decide +kernel
theorem dL_would_55 : decode cL_would 55 = .ok (.istore 4, 2) := by decide +kernel
theorem dL_would_57 : decode cL_would 57 = .ok (.iload 4, 2) := by decide +kernel
theorem dL_would_59 : decode cL_would 59 = .ok (.ifCond .ne 12, 3) := by decide +kernel
theorem dL_would_62 : decode cL_would 62 = .ok (.aload_n 2, 1) := by decide +kernel
theorem dL_would_63 : decode cL_would 63 = .ok (.invokestatic 57, 3) := by decide +kernel
theorem dL_would_66 : decode cL_would 66 = .ok (.ifCond .ge 5, 3) := by decide +kernel
theorem dL_would_69 : decode cL_would 69 = .ok (.iconst (-1), 1) := by decide +kernel
theorem dL_would_70 : decode cL_would 70 = .ok (.ireturn, 1) := by decide +kernel
theorem dL_would_71 : decode cL_would 71 = .ok (.iload_n 3, 1) := by decide +kernel
theorem dL_would_72 : decode cL_would 72 = .ok (.ifCond .ge 7, 3) := by decide +kernel
theorem dL_would_75 : decode cL_would 75 = .ok (.iconst 1, 1) := by decide +kernel
theorem dL_would_76 : decode cL_would 76 = .ok (.goto 21, 3) := by decide +kernel
theorem dL_would_79 : decode cL_would 79 = .ok (.aload_n 1, 1) := by decide +kernel
theorem dL_would_80 : decode cL_would 80 = .ok (.iconst 1, 1) := by decide +kernel
theorem dL_would_81 : decode cL_would 81 = .ok (.iaload, 1) := by decide +kernel
theorem dL_would_82 : decode cL_would 82 = .ok (.iload_n 0, 1) := by decide +kernel
theorem dL_would_83 : decode cL_would 83 = .ok (.iconst 4, 1) := by decide +kernel
theorem dL_would_84 : decode cL_would 84 = .ok (.idiv, 1) := by decide +kernel
theorem dL_would_85 : decode cL_would 85 = .ok (.ishr, 1) := by decide +kernel
theorem dL_would_86 : decode cL_would 86 = .ok (.iconst 1, 1) := by decide +kernel
theorem dL_would_87 : decode cL_would 87 = .ok (.iand, 1) := by decide +kernel
theorem dL_would_88 : decode cL_would 88 = .ok (.iconst 1, 1) := by decide +kernel
theorem dL_would_89 : decode cL_would 89 = .ok (.if_icmp .ne 7, 3) := by decide +kernel
theorem dL_would_92 : decode cL_would 92 = .ok (.iconst 3, 1) := by decide +kernel
theorem dL_would_93 : decode cL_would 93 = .ok (.goto 4, 3) := by decide +kernel
theorem dL_would_96 : decode cL_would 96 = .ok (.iconst 2, 1) := by decide +kernel
theorem dL_would_97 : decode cL_would 97 = .ok (.ireturn, 1) := by decide +kernel
theorem dL_writes_0 : decode cL_writes 0 = .ok (.iload_n 0, 1) := by decide +kernel
theorem dL_writes_1 : decode cL_writes 1 = .ok (.aload_n 2, 1) := by decide +kernel
theorem dL_writes_2 : decode cL_writes 2 = .ok (.aload_n 3, 1) := by decide +kernel
theorem dL_writes_3 : decode cL_writes 3 = .ok (.invokestatic 60, 3) := by decide +kernel
theorem dL_writes_6 : decode cL_writes 6 = .ok (.istore 5, 2) := by decide +kernel
theorem dL_writes_8 : decode cL_writes 8 = .ok (.iload 5, 2) := by decide +kernel
theorem dL_writes_10 : decode cL_writes 10 = .ok (.ifCond .ge 6, 3) := by decide +kernel
theorem dL_writes_13 : decode cL_writes 13 = .ok (.bipush (-3), 2) := by decide +kernel
theorem dL_writes_15 : decode cL_writes 15 = .ok (.ireturn, 1) := by decide +kernel
theorem dL_writes_16 : decode cL_writes 16 = .ok (.iload_n 0, 1) := by decide +kernel
theorem dL_writes_17 : decode cL_writes 17 = .ok (.aload_n 3, 1) := by decide +kernel
theorem dL_writes_18 : decode cL_writes 18 = .ok (.invokestatic 46, 3) := by decide +kernel
theorem dL_writes_21 : decode cL_writes 21 = .ok (.istore 6, 2) := by decide +kernel
theorem dL_writes_23 : decode cL_writes 23 = .ok (.iload 5, 2) := by decide +kernel
theorem dL_writes_25 : decode cL_writes 25 = .ok (.iconst 1, 1) := by decide +kernel
theorem dL_writes_26 : decode cL_writes 26 = .ok (.if_icmp .ne 93, 3) := by decide +kernel
theorem dL_writes_29 : decode cL_writes 29 = .ok (.aload_n 2, 1) := by decide +kernel
theorem dL_writes_30 : decode cL_writes 30 = .ok (.bipush 6, 2) := by decide +kernel
theorem dL_writes_32 : decode cL_writes 32 = .ok (.iaload, 1) := by decide +kernel
theorem dL_writes_33 : decode cL_writes 33 = .ok (.iconst 1, 1) := by decide +kernel
theorem dL_writes_34 : decode cL_writes 34 = .ok (.if_icmp .ne 85, 3) := by decide +kernel
theorem dL_writes_37 : decode cL_writes 37 = .ok (.iload_n 0, 1) := by decide +kernel
theorem dL_writes_38 : decode cL_writes 38 = .ok (.iconst 4, 1) := by decide +kernel
theorem dL_writes_39 : decode cL_writes 39 = .ok (.idiv, 1) := by decide +kernel
theorem dL_writes_40 : decode cL_writes 40 = .ok (.aload_n 3, 1) := by decide +kernel
theorem dL_writes_41 : decode cL_writes 41 = .ok (.invokestatic 54, 3) := by decide +kernel
theorem dL_writes_44 : decode cL_writes 44 = .ok (.ifCond .eq 75, 3) := by decide +kernel
theorem dL_writes_47 : decode cL_writes 47 = .ok (.aload_n 3, 1) := by decide +kernel
theorem dL_writes_48 : decode cL_writes 48 = .ok (.invokestatic 42, 3) := by decide +kernel
theorem dL_writes_51 : decode cL_writes 51 = .ok (.ifCond .lt 68, 3) := by decide +kernel
theorem dL_writes_54 : decode cL_writes 54 = .ok (.aload_n 3, 1) := by decide +kernel
theorem dL_writes_55 : decode cL_writes 55 = .ok (.invokestatic 42, 3) := by decide +kernel
theorem dL_writes_58 : decode cL_writes 58 = .ok (.istore 7, 2) := by decide +kernel
theorem dL_writes_60 : decode cL_writes 60 = .ok (.iconst 0, 1) := by decide +kernel
theorem dL_writes_61 : decode cL_writes 61 = .ok (.istore 8, 2) := by decide +kernel
theorem dL_writes_63 : decode cL_writes 63 = .ok (.iload 8, 2) := by decide +kernel
theorem dL_writes_65 : decode cL_writes 65 = .ok (.iconst 4, 1) := by decide +kernel
theorem dL_writes_66 : decode cL_writes 66 = .ok (.if_icmp .ge 39, 3) := by decide +kernel
theorem dL_writes_69 : decode cL_writes 69 = .ok (.aload_n 3, 1) := by decide +kernel
theorem dL_writes_70 : decode cL_writes 70 = .ok (.iconst 4, 1) := by decide +kernel
theorem dL_writes_71 : decode cL_writes 71 = .ok (.iload 7, 2) := by decide +kernel
theorem dL_writes_73 : decode cL_writes 73 = .ok (.imul, 1) := by decide +kernel
theorem dL_writes_74 : decode cL_writes 74 = .ok (.iload 8, 2) := by decide +kernel
theorem dL_writes_76 : decode cL_writes 76 = .ok (.iadd, 1) := by decide +kernel
theorem dL_writes_77 : decode cL_writes 77 = .ok (.lconst 1, 1) := by decide +kernel
theorem dL_writes_78 : decode cL_writes 78 = .ok (.iload_n 0, 1) := by decide +kernel
theorem dL_writes_79 : decode cL_writes 79 = .ok (.iconst 4, 1) := by decide +kernel
theorem dL_writes_80 : decode cL_writes 80 = .ok (.idiv, 1) := by decide +kernel
theorem dL_writes_81 : decode cL_writes 81 = .ok (.iconst 4, 1) := by decide +kernel
theorem dL_writes_82 : decode cL_writes 82 = .ok (.imul, 1) := by decide +kernel
theorem dL_writes_83 : decode cL_writes 83 = .ok (.iload 8, 2) := by decide +kernel
theorem dL_writes_85 : decode cL_writes 85 = .ok (.iadd, 1) := by decide +kernel
theorem dL_writes_86 : decode cL_writes 86 = .ok (.lshl, 1) := by decide +kernel
theorem dL_writes_87 : decode cL_writes 87 = .ok (.lastore, 1) := by decide +kernel
theorem dL_writes_88 : decode cL_writes 88 = .ok (.aload 4, 2) := by decide +kernel
theorem dL_writes_90 : decode cL_writes 90 = .ok (.iconst 4, 1) := by decide +kernel
theorem dL_writes_91 : decode cL_writes 91 = .ok (.iload 7, 2) := by decide +kernel
theorem dL_writes_93 : decode cL_writes 93 = .ok (.imul, 1) := by decide +kernel
theorem dL_writes_94 : decode cL_writes 94 = .ok (.iload 8, 2) := by decide +kernel
theorem dL_writes_96 : decode cL_writes 96 = .ok (.iadd, 1) := by decide +kernel
theorem dL_writes_97 : decode cL_writes 97 = .ok (.iconst 0, 1) := by decide +kernel
theorem dL_writes_98 : decode cL_writes 98 = .ok (.iastore, 1) := by decide +kernel
theorem dL_writes_99 : decode cL_writes 99 = .ok (.iinc 8 1, 3) := by decide +kernel
theorem dL_writes_102 : decode cL_writes 102 = .ok (.goto (-39), 3) := by decide +kernel
theorem dL_writes_105 : decode cL_writes 105 = .ok (.aload_n 2, 1) := by decide +kernel
theorem dL_writes_106 : decode cL_writes 106 = .ok (.iconst 1, 1) := by decide +kernel
theorem dL_writes_107 : decode cL_writes 107 = .ok (.dup2, 1) := by decide +kernel
theorem dL_writes_108 : decode cL_writes 108 = .ok (.iaload, 1) := by decide +kernel
theorem dL_writes_109 : decode cL_writes 109 = .ok (.iconst 1, 1) := by decide +kernel
theorem dL_writes_110 : decode cL_writes 110 = .ok (.iload_n 0, 1) := by decide +kernel
theorem dL_writes_111 : decode cL_writes 111 = .ok (.iconst 4, 1) := by decide +kernel
theorem dL_writes_112 : decode cL_writes 112 = .ok (.idiv, 1) := by decide +kernel
theorem dL_writes_113 : decode cL_writes 113 = .ok (.ishl, 1) := by decide +kernel
theorem dL_writes_114 : decode cL_writes 114 = .ok (.ior, 1) := by decide +kernel
theorem dL_writes_115 : decode cL_writes 115 = .ok (.iastore, 1) := by decide +kernel
theorem dL_writes_116 : decode cL_writes 116 = .ok (.goto 40, 3) := by decide +kernel
theorem dL_writes_119 : decode cL_writes 119 = .ok (.iload 5, 2) := by decide +kernel
theorem dL_writes_121 : decode cL_writes 121 = .ok (.ifCond .le 35, 3) := by decide +kernel
theorem dL_writes_124 : decode cL_writes 124 = .ok (.aload_n 3, 1) := by decide +kernel
theorem dL_writes_125 : decode cL_writes 125 = .ok (.invokestatic 57, 3) := by decide +kernel
theorem dL_writes_128 : decode cL_writes 128 = .ok (.istore 7, 2) := by decide +kernel
theorem dL_writes_130 : decode cL_writes 130 = .ok (.aload_n 3, 1) := by decide +kernel
theorem dL_writes_131 : decode cL_writes 131 = .ok (.iload 7, 2) := by decide +kernel
theorem dL_writes_133 : decode cL_writes 133 = .ok (.lconst 1, 1) := by decide +kernel
theorem dL_writes_134 : decode cL_writes 134 = .ok (.iload_n 0, 1) := by decide +kernel
theorem dL_writes_135 : decode cL_writes 135 = .ok (.lshl, 1) := by decide +kernel
theorem dL_writes_136 : decode cL_writes 136 = .ok (.lastore, 1) := by decide +kernel
theorem dL_writes_137 : decode cL_writes 137 = .ok (.iload 6, 2) := by decide +kernel
theorem dL_writes_139 : decode cL_writes 139 = .ok (.ifCond .lt 17, 3) := by decide +kernel
theorem dL_writes_142 : decode cL_writes 142 = .ok (.aload_n 3, 1) := by decide +kernel
theorem dL_writes_143 : decode cL_writes 143 = .ok (.iload 6, 2) := by decide +kernel
theorem dL_writes_145 : decode cL_writes 145 = .ok (.dup2, 1) := by decide +kernel
theorem dL_writes_146 : decode cL_writes 146 = .ok (.laload, 1) := by decide +kernel
theorem dL_writes_147 : decode cL_writes 147 = .ok (.lconst 1, 1) := by decide +kernel
theorem dL_writes_148 : decode cL_writes 148 = .ok (.iload_n 0, 1) := by decide +kernel
theorem dL_writes_149 : decode cL_writes 149 = .ok (.lshl, 1) := by decide +kernel
theorem dL_writes_150 : decode cL_writes 150 = .ok (.ldc2_w 64, 3) := by decide +kernel
theorem dL_writes_153 : decode cL_writes 153 = .ok (.lxor, 1) := by decide +kernel
theorem dL_writes_154 : decode cL_writes 154 = .ok (.land, 1) := by decide +kernel
theorem dL_writes_155 : decode cL_writes 155 = .ok (.lastore, 1) := by decide +kernel
theorem dL_writes_156 : decode cL_writes 156 = .ok (.aload_n 2, 1) := by decide +kernel
theorem dL_writes_157 : decode cL_writes 157 = .ok (.iconst 3, 1) := by decide +kernel
theorem dL_writes_158 : decode cL_writes 158 = .ok (.dup2, 1) := by decide +kernel
theorem dL_writes_159 : decode cL_writes 159 = .ok (.iaload, 1) := by decide +kernel
theorem dL_writes_160 : decode cL_writes 160 = .ok (.iload 5, 2) := by decide +kernel
theorem dL_writes_162 : decode cL_writes 162 = .ok (.iconst 1, 1) := by decide +kernel
theorem dL_writes_163 : decode cL_writes 163 = .ok (.if_icmp .ne 7, 3) := by decide +kernel
theorem dL_writes_166 : decode cL_writes 166 = .ok (.iconst 1, 1) := by decide +kernel
theorem dL_writes_167 : decode cL_writes 167 = .ok (.goto 4, 3) := by decide +kernel
theorem dL_writes_170 : decode cL_writes 170 = .ok (.iconst 0, 1) := by decide +kernel
theorem dL_writes_171 : decode cL_writes 171 = .ok (.iadd, 1) := by decide +kernel
theorem dL_writes_172 : decode cL_writes 172 = .ok (.iastore, 1) := by decide +kernel
theorem dL_writes_173 : decode cL_writes 173 = .ok (.aload_n 2, 1) := by decide +kernel
theorem dL_writes_174 : decode cL_writes 174 = .ok (.iconst 2, 1) := by decide +kernel
theorem dL_writes_175 : decode cL_writes 175 = .ok (.dup2, 1) := by decide +kernel
theorem dL_writes_176 : decode cL_writes 176 = .ok (.iaload, 1) := by decide +kernel
theorem dL_writes_177 : decode cL_writes 177 = .ok (.iload 5, 2) := by decide +kernel
theorem dL_writes_179 : decode cL_writes 179 = .ok (.iconst 1, 1) := by decide +kernel
theorem dL_writes_180 : decode cL_writes 180 = .ok (.if_icmp .le 7, 3) := by decide +kernel
theorem dL_writes_183 : decode cL_writes 183 = .ok (.iconst 1, 1) := by decide +kernel
theorem dL_writes_184 : decode cL_writes 184 = .ok (.goto 4, 3) := by decide +kernel
theorem dL_writes_187 : decode cL_writes 187 = .ok (.iconst 0, 1) := by decide +kernel
theorem dL_writes_188 : decode cL_writes 188 = .ok (.iadd, 1) := by decide +kernel
theorem dL_writes_189 : decode cL_writes 189 = .ok (.iastore, 1) := by decide +kernel
theorem dL_writes_190 : decode cL_writes 190 = .ok (.aload_n 2, 1) := by decide +kernel
theorem dL_writes_191 : decode cL_writes 191 = .ok (.iconst 4, 1) := by decide +kernel
theorem dL_writes_192 : decode cL_writes 192 = .ok (.dup2, 1) := by decide +kernel
theorem dL_writes_193 : decode cL_writes 193 = .ok (.iaload, 1) := by decide +kernel
theorem dL_writes_194 : decode cL_writes 194 = .ok (.iload 5, 2) := by decide +kernel
theorem dL_writes_196 : decode cL_writes 196 = .ok (.iconst 3, 1) := by decide +kernel
theorem dL_writes_197 : decode cL_writes 197 = .ok (.if_icmp .ne 7, 3) := by decide +kernel
theorem dL_writes_200 : decode cL_writes 200 = .ok (.iconst 1, 1) := by decide +kernel
theorem dL_writes_201 : decode cL_writes 201 = .ok (.goto 4, 3) := by decide +kernel
theorem dL_writes_204 : decode cL_writes 204 = .ok (.iconst 0, 1) := by decide +kernel
theorem dL_writes_205 : decode cL_writes 205 = .ok (.iadd, 1) := by decide +kernel
theorem dL_writes_206 : decode cL_writes 206 = .ok (.iastore, 1) := by decide +kernel
theorem dL_writes_207 : decode cL_writes 207 = .ok (.aload_n 2, 1) := by decide +kernel
theorem dL_writes_208 : decode cL_writes 208 = .ok (.iconst 1, 1) := by decide +kernel
theorem dL_writes_209 : decode cL_writes 209 = .ok (.dup2, 1) := by decide +kernel
theorem dL_writes_210 : decode cL_writes 210 = .ok (.iaload, 1) := by decide +kernel
theorem dL_writes_211 : decode cL_writes 211 = .ok (.iload 5, 2) := by decide +kernel
theorem dL_writes_213 : decode cL_writes 213 = .ok (.iconst 3, 1) := by decide +kernel
theorem dL_writes_214 : decode cL_writes 214 = .ok (.if_icmp .ne 13, 3) := by decide +kernel
theorem dL_writes_217 : decode cL_writes 217 = .ok (.iconst 1, 1) := by decide +kernel
theorem dL_writes_218 : decode cL_writes 218 = .ok (.iload_n 0, 1) := by decide +kernel
theorem dL_writes_219 : decode cL_writes 219 = .ok (.iconst 4, 1) := by decide +kernel
theorem dL_writes_220 : decode cL_writes 220 = .ok (.idiv, 1) := by decide +kernel
theorem dL_writes_221 : decode cL_writes 221 = .ok (.ishl, 1) := by decide +kernel
theorem dL_writes_222 : decode cL_writes 222 = .ok (.iconst (-1), 1) := by decide +kernel
theorem dL_writes_223 : decode cL_writes 223 = .ok (.ixor, 1) := by decide +kernel
theorem dL_writes_224 : decode cL_writes 224 = .ok (.goto 4, 3) := by decide +kernel
theorem dL_writes_227 : decode cL_writes 227 = .ok (.iconst (-1), 1) := by decide +kernel
theorem dL_writes_228 : decode cL_writes 228 = .ok (.iand, 1) := by decide +kernel
theorem dL_writes_229 : decode cL_writes 229 = .ok (.iastore, 1) := by decide +kernel
theorem dL_writes_230 : decode cL_writes 230 = .ok (.aload 4, 2) := by decide +kernel
theorem dL_writes_232 : decode cL_writes 232 = .ok (.iload_n 0, 1) := by decide +kernel
theorem dL_writes_233 : decode cL_writes 233 = .ok (.aload_n 3, 1) := by decide +kernel
theorem dL_writes_234 : decode cL_writes 234 = .ok (.invokestatic 46, 3) := by decide +kernel
theorem dL_writes_237 : decode cL_writes 237 = .ok (.iload_n 1, 1) := by decide +kernel
theorem dL_writes_238 : decode cL_writes 238 = .ok (.iastore, 1) := by decide +kernel
theorem dL_writes_239 : decode cL_writes 239 = .ok (.iload 5, 2) := by decide +kernel
theorem dL_writes_241 : decode cL_writes 241 = .ok (.ireturn, 1) := by decide +kernel
theorem dL_place_0 : decode cL_place 0 = .ok (.iconst 4, 1) := by decide +kernel
theorem dL_place_1 : decode cL_place 1 = .ok (.iload_n 0, 1) := by decide +kernel
theorem dL_place_2 : decode cL_place 2 = .ok (.imul, 1) := by decide +kernel
theorem dL_place_3 : decode cL_place 3 = .ok (.aload_n 1, 1) := by decide +kernel
theorem dL_place_4 : decode cL_place 4 = .ok (.invokestatic 46, 3) := by decide +kernel
theorem dL_place_7 : decode cL_place 7 = .ok (.istore_n 2, 1) := by decide +kernel
theorem dL_place_8 : decode cL_place 8 = .ok (.iload_n 2, 1) := by decide +kernel
theorem dL_place_9 : decode cL_place 9 = .ok (.ifCond .lt 13, 3) := by decide +kernel
theorem dL_place_12 : decode cL_place 12 = .ok (.iload_n 2, 1) := by decide +kernel
theorem dL_place_13 : decode cL_place 13 = .ok (.iconst 4, 1) := by decide +kernel
theorem dL_place_14 : decode cL_place 14 = .ok (.irem, 1) := by decide +kernel
theorem dL_place_15 : decode cL_place 15 = .ok (.ifCond .ne 7, 3) := by decide +kernel
theorem dL_place_18 : decode cL_place 18 = .ok (.iconst 1, 1) := by decide +kernel
theorem dL_place_19 : decode cL_place 19 = .ok (.goto 4, 3) := by decide +kernel
theorem dL_place_22 : decode cL_place 22 = .ok (.iconst 0, 1) := by decide +kernel
theorem dL_place_23 : decode cL_place 23 = .ok (.istore_n 3, 1) := by decide +kernel
theorem dL_place_24 : decode cL_place 24 = .ok (.iconst 1, 1) := by decide +kernel
theorem dL_place_25 : decode cL_place 25 = .ok (.istore 4, 2) := by decide +kernel
theorem dL_place_27 : decode cL_place 27 = .ok (.iload 4, 2) := by decide +kernel
theorem dL_place_29 : decode cL_place 29 = .ok (.iconst 4, 1) := by decide +kernel
theorem dL_place_30 : decode cL_place 30 = .ok (.if_icmp .ge 36, 3) := by decide +kernel
theorem dL_place_33 : decode cL_place 33 = .ok (.iload_n 3, 1) := by decide +kernel
theorem dL_place_34 : decode cL_place 34 = .ok (.ifCond .eq 24, 3) := by decide +kernel
theorem dL_place_37 : decode cL_place 37 = .ok (.iconst 4, 1) := by decide +kernel
theorem dL_place_38 : decode cL_place 38 = .ok (.iload_n 0, 1) := by decide +kernel
theorem dL_place_39 : decode cL_place 39 = .ok (.imul, 1) := by decide +kernel
theorem dL_place_40 : decode cL_place 40 = .ok (.iload 4, 2) := by decide +kernel
theorem dL_place_42 : decode cL_place 42 = .ok (.iadd, 1) := by decide +kernel
theorem dL_place_43 : decode cL_place 43 = .ok (.aload_n 1, 1) := by decide +kernel
theorem dL_place_44 : decode cL_place 44 = .ok (.invokestatic 46, 3) := by decide +kernel
theorem dL_place_47 : decode cL_place 47 = .ok (.iload_n 2, 1) := by decide +kernel
theorem dL_place_48 : decode cL_place 48 = .ok (.iload 4, 2) := by decide +kernel
theorem dL_place_50 : decode cL_place 50 = .ok (.iadd, 1) := by decide +kernel
theorem dL_place_51 : decode cL_place 51 = .ok (.if_icmp .ne 7, 3) := by decide +kernel
theorem dL_place_54 : decode cL_place 54 = .ok (.iconst 1, 1) := by decide +kernel
theorem dL_place_55 : decode cL_place 55 = .ok (.goto 4, 3) := by decide +kernel
theorem dL_place_58 : decode cL_place 58 = .ok (.iconst 0, 1) := by decide +kernel
theorem dL_place_59 : decode cL_place 59 = .ok (.istore_n 3, 1) := by decide +kernel
theorem dL_place_60 : decode cL_place 60 = .ok (.iinc 4 1, 3) := by decide +kernel
theorem dL_place_63 : decode cL_place 63 = .ok (.goto (-36), 3) := by decide +kernel
theorem dL_place_66 : decode cL_place 66 = .ok (.iload_n 3, 1) := by decide +kernel
theorem dL_place_67 : decode cL_place 67 = .ok (.ireturn, 1) := by decide +kernel
theorem dL_why_0 : decode cL_why 0 = .ok (.aload_n 1, 1) := by decide +kernel
theorem dL_why_1 : decode cL_why 1 = .ok (.iconst 1, 1) := by decide +kernel
theorem dL_why_2 : decode cL_why 2 = .ok (.iaload, 1) := by decide +kernel
theorem dL_why_3 : decode cL_why 3 = .ok (.iload_n 0, 1) := by decide +kernel
theorem dL_why_4 : decode cL_why 4 = .ok (.ishr, 1) := by decide +kernel
theorem dL_why_5 : decode cL_why 5 = .ok (.iconst 1, 1) := by decide +kernel
theorem dL_why_6 : decode cL_why 6 = .ok (.iand, 1) := by decide +kernel
theorem dL_why_7 : decode cL_why 7 = .ok (.iconst 1, 1) := by decide +kernel
theorem dL_why_8 : decode cL_why 8 = .ok (.if_icmp .ne 5, 3) := by decide +kernel
theorem dL_why_11 : decode cL_why 11 = .ok (.iconst 1, 1) := by decide +kernel
theorem dL_why_12 : decode cL_why 12 = .ok (.ireturn, 1) := by decide +kernel
theorem dL_why_13 : decode cL_why 13 = .ok (.iconst 0, 1) := by decide +kernel
theorem dL_why_14 : decode cL_why 14 = .ok (.istore_n 3, 1) := by decide +kernel
theorem dL_why_15 : decode cL_why 15 = .ok (.iconst 4, 1) := by decide +kernel
theorem dL_why_16 : decode cL_why 16 = .ok (.iload_n 0, 1) := by decide +kernel
theorem dL_why_17 : decode cL_why 17 = .ok (.imul, 1) := by decide +kernel
theorem dL_why_18 : decode cL_why 18 = .ok (.istore 4, 2) := by decide +kernel
theorem dL_why_20 : decode cL_why 20 = .ok (.iload 4, 2) := by decide +kernel
theorem dL_why_22 : decode cL_why 22 = .ok (.iconst 4, 1) := by decide +kernel
theorem dL_why_23 : decode cL_why 23 = .ok (.iload_n 0, 1) := by decide +kernel
theorem dL_why_24 : decode cL_why 24 = .ok (.imul, 1) := by decide +kernel
theorem dL_why_25 : decode cL_why 25 = .ok (.iconst 4, 1) := by decide +kernel
theorem dL_why_26 : decode cL_why 26 = .ok (.iadd, 1) := by decide +kernel
theorem dL_why_27 : decode cL_why 27 = .ok (.if_icmp .ge 44, 3) := by decide +kernel
theorem dL_why_30 : decode cL_why 30 = .ok (.iload 4, 2) := by decide +kernel
theorem dL_why_32 : decode cL_why 32 = .ok (.aload_n 2, 1) := by decide +kernel
theorem dL_why_33 : decode cL_why 33 = .ok (.invokestatic 46, 3) := by decide +kernel
theorem dL_why_36 : decode cL_why 36 = .ok (.istore 5, 2) := by decide +kernel
theorem dL_why_38 : decode cL_why 38 = .ok (.iload 5, 2) := by decide +kernel
theorem dL_why_40 : decode cL_why 40 = .ok (.ifCond .ge 5, 3) := by decide +kernel
theorem dL_why_43 : decode cL_why 43 = .ok (.iconst 2, 1) := by decide +kernel
theorem dL_why_44 : decode cL_why 44 = .ok (.ireturn, 1) := by decide +kernel
theorem dL_why_45 : decode cL_why 45 = .ok (.iload_n 3, 1) := by decide +kernel
theorem dL_why_46 : decode cL_why 46 = .ok (.ifCond .ne 13, 3) := by decide +kernel
theorem dL_why_49 : decode cL_why 49 = .ok (.aload_n 2, 1) := by decide +kernel
theorem dL_why_50 : decode cL_why 50 = .ok (.iload 5, 2) := by decide +kernel
theorem dL_why_52 : decode cL_why 52 = .ok (.laload, 1) := by decide +kernel
theorem dL_why_53 : decode cL_why 53 = .ok (.invokestatic 50, 3) := by decide +kernel
theorem dL_why_56 : decode cL_why 56 = .ok (.ifCond .ne 7, 3) := by decide +kernel
theorem dL_why_59 : decode cL_why 59 = .ok (.iconst 1, 1) := by decide +kernel
theorem dL_why_60 : decode cL_why 60 = .ok (.goto 4, 3) := by decide +kernel
theorem dL_why_63 : decode cL_why 63 = .ok (.iconst 0, 1) := by decide +kernel
theorem dL_why_64 : decode cL_why 64 = .ok (.istore_n 3, 1) := by decide +kernel
theorem dL_why_65 : decode cL_why 65 = .ok (.iinc 4 1, 3) := by decide +kernel
theorem dL_why_68 : decode cL_why 68 = .ok (.goto (-48), 3) := by decide +kernel
theorem dL_why_71 : decode cL_why 71 = .ok (.iload_n 3, 1) := by decide +kernel
theorem dL_why_72 : decode cL_why 72 = .ok (.ifCond .eq 7, 3) := by decide +kernel
theorem dL_why_75 : decode cL_why 75 = .ok (.iconst 3, 1) := by decide +kernel
theorem dL_why_76 : decode cL_why 76 = .ok (.goto 23, 3) := by decide +kernel
theorem dL_why_79 : decode cL_why 79 = .ok (.iload_n 0, 1) := by decide +kernel
theorem dL_why_80 : decode cL_why 80 = .ok (.aload_n 2, 1) := by decide +kernel
theorem dL_why_81 : decode cL_why 81 = .ok (.invokestatic 66, 3) := by decide +kernel
theorem dL_why_84 : decode cL_why 84 = .ok (.ifCond .ne 14, 3) := by decide +kernel
theorem dL_why_87 : decode cL_why 87 = .ok (.aload_n 2, 1) := by decide +kernel
theorem dL_why_88 : decode cL_why 88 = .ok (.invokestatic 42, 3) := by decide +kernel
theorem dL_why_91 : decode cL_why 91 = .ok (.ifCond .ge 7, 3) := by decide +kernel
theorem dL_why_94 : decode cL_why 94 = .ok (.iconst 4, 1) := by decide +kernel
theorem dL_why_95 : decode cL_why 95 = .ok (.goto 4, 3) := by decide +kernel
theorem dL_why_98 : decode cL_why 98 = .ok (.iconst 0, 1) := by decide +kernel
theorem dL_why_99 : decode cL_why 99 = .ok (.ireturn, 1) := by decide +kernel
theorem dL_weds_0 : decode cL_weds 0 = .ok (.iload_n 0, 1) := by decide +kernel
theorem dL_weds_1 : decode cL_weds 1 = .ok (.aload_n 1, 1) := by decide +kernel
theorem dL_weds_2 : decode cL_weds 2 = .ok (.aload_n 2, 1) := by decide +kernel
theorem dL_weds_3 : decode cL_weds 3 = .ok (.invokestatic 69, 3) := by decide +kernel
theorem dL_weds_6 : decode cL_weds 6 = .ok (.ifCond .le 6, 3) := by decide +kernel
theorem dL_weds_9 : decode cL_weds 9 = .ok (.bipush (-2), 2) := by decide +kernel
theorem dL_weds_11 : decode cL_weds 11 = .ok (.ireturn, 1) := by decide +kernel
theorem dL_weds_12 : decode cL_weds 12 = .ok (.aload_n 1, 1) := by decide +kernel
theorem dL_weds_13 : decode cL_weds 13 = .ok (.iconst 1, 1) := by decide +kernel
theorem dL_weds_14 : decode cL_weds 14 = .ok (.dup2, 1) := by decide +kernel
theorem dL_weds_15 : decode cL_weds 15 = .ok (.iaload, 1) := by decide +kernel
theorem dL_weds_16 : decode cL_weds 16 = .ok (.iconst 1, 1) := by decide +kernel
theorem dL_weds_17 : decode cL_weds 17 = .ok (.iload_n 0, 1) := by decide +kernel
theorem dL_weds_18 : decode cL_weds 18 = .ok (.ishl, 1) := by decide +kernel
theorem dL_weds_19 : decode cL_weds 19 = .ok (.ior, 1) := by decide +kernel
theorem dL_weds_20 : decode cL_weds 20 = .ok (.iastore, 1) := by decide +kernel
theorem dL_weds_21 : decode cL_weds 21 = .ok (.iload_n 0, 1) := by decide +kernel
theorem dL_weds_22 : decode cL_weds 22 = .ok (.aload_n 2, 1) := by decide +kernel
theorem dL_weds_23 : decode cL_weds 23 = .ok (.invokestatic 66, 3) := by decide +kernel
theorem dL_weds_26 : decode cL_weds 26 = .ok (.ifCond .eq 5, 3) := by decide +kernel
theorem dL_weds_29 : decode cL_weds 29 = .ok (.iconst 0, 1) := by decide +kernel
theorem dL_weds_30 : decode cL_weds 30 = .ok (.ireturn, 1) := by decide +kernel
theorem dL_weds_31 : decode cL_weds 31 = .ok (.aload_n 2, 1) := by decide +kernel
theorem dL_weds_32 : decode cL_weds 32 = .ok (.invokestatic 42, 3) := by decide +kernel
theorem dL_weds_35 : decode cL_weds 35 = .ok (.istore 4, 2) := by decide +kernel
theorem dL_weds_37 : decode cL_weds 37 = .ok (.iconst 0, 1) := by decide +kernel
theorem dL_weds_38 : decode cL_weds 38 = .ok (.istore 5, 2) := by decide +kernel
theorem dL_weds_40 : decode cL_weds 40 = .ok (.iload 5, 2) := by decide +kernel
theorem dL_weds_42 : decode cL_weds 42 = .ok (.iconst 4, 1) := by decide +kernel
theorem dL_weds_43 : decode cL_weds 43 = .ok (.if_icmp .ge 56, 3) := by decide +kernel
theorem dL_weds_46 : decode cL_weds 46 = .ok (.iconst 4, 1) := by decide +kernel
theorem dL_weds_47 : decode cL_weds 47 = .ok (.iload_n 0, 1) := by decide +kernel
theorem dL_weds_48 : decode cL_weds 48 = .ok (.imul, 1) := by decide +kernel
theorem dL_weds_49 : decode cL_weds 49 = .ok (.iload 5, 2) := by decide +kernel
theorem dL_weds_51 : decode cL_weds 51 = .ok (.iadd, 1) := by decide +kernel
theorem dL_weds_52 : decode cL_weds 52 = .ok (.aload_n 2, 1) := by decide +kernel
theorem dL_weds_53 : decode cL_weds 53 = .ok (.invokestatic 46, 3) := by decide +kernel
theorem dL_weds_56 : decode cL_weds 56 = .ok (.istore 6, 2) := by decide +kernel
theorem dL_weds_58 : decode cL_weds 58 = .ok (.aload_n 3, 1) := by decide +kernel
theorem dL_weds_59 : decode cL_weds 59 = .ok (.iconst 4, 1) := by decide +kernel
theorem dL_weds_60 : decode cL_weds 60 = .ok (.iload 4, 2) := by decide +kernel
theorem dL_weds_62 : decode cL_weds 62 = .ok (.imul, 1) := by decide +kernel
theorem dL_weds_63 : decode cL_weds 63 = .ok (.iload 5, 2) := by decide +kernel
theorem dL_weds_65 : decode cL_weds 65 = .ok (.iadd, 1) := by decide +kernel
theorem dL_weds_66 : decode cL_weds 66 = .ok (.aload_n 3, 1) := by decide +kernel
theorem dL_weds_67 : decode cL_weds 67 = .ok (.iload 6, 2) := by decide +kernel
theorem dL_weds_69 : decode cL_weds 69 = .ok (.iaload, 1) := by decide +kernel
theorem dL_weds_70 : decode cL_weds 70 = .ok (.iastore, 1) := by decide +kernel
theorem dL_weds_71 : decode cL_weds 71 = .ok (.aload_n 2, 1) := by decide +kernel
theorem dL_weds_72 : decode cL_weds 72 = .ok (.iload 6, 2) := by decide +kernel
theorem dL_weds_74 : decode cL_weds 74 = .ok (.lconst 0, 1) := by decide +kernel
theorem dL_weds_75 : decode cL_weds 75 = .ok (.lastore, 1) := by decide +kernel
theorem dL_weds_76 : decode cL_weds 76 = .ok (.aload_n 2, 1) := by decide +kernel
theorem dL_weds_77 : decode cL_weds 77 = .ok (.iconst 4, 1) := by decide +kernel
theorem dL_weds_78 : decode cL_weds 78 = .ok (.iload 4, 2) := by decide +kernel
theorem dL_weds_80 : decode cL_weds 80 = .ok (.imul, 1) := by decide +kernel
theorem dL_weds_81 : decode cL_weds 81 = .ok (.iload 5, 2) := by decide +kernel
theorem dL_weds_83 : decode cL_weds 83 = .ok (.iadd, 1) := by decide +kernel
theorem dL_weds_84 : decode cL_weds 84 = .ok (.lconst 1, 1) := by decide +kernel
theorem dL_weds_85 : decode cL_weds 85 = .ok (.iconst 4, 1) := by decide +kernel
theorem dL_weds_86 : decode cL_weds 86 = .ok (.iload_n 0, 1) := by decide +kernel
theorem dL_weds_87 : decode cL_weds 87 = .ok (.imul, 1) := by decide +kernel
theorem dL_weds_88 : decode cL_weds 88 = .ok (.iload 5, 2) := by decide +kernel
theorem dL_weds_90 : decode cL_weds 90 = .ok (.iadd, 1) := by decide +kernel
theorem dL_weds_91 : decode cL_weds 91 = .ok (.lshl, 1) := by decide +kernel
theorem dL_weds_92 : decode cL_weds 92 = .ok (.lastore, 1) := by decide +kernel
theorem dL_weds_93 : decode cL_weds 93 = .ok (.iinc 5 1, 3) := by decide +kernel
theorem dL_weds_96 : decode cL_weds 96 = .ok (.goto (-56), 3) := by decide +kernel
theorem dL_weds_99 : decode cL_weds 99 = .ok (.aload_n 1, 1) := by decide +kernel
theorem dL_weds_100 : decode cL_weds 100 = .ok (.iconst 2, 1) := by decide +kernel
theorem dL_weds_101 : decode cL_weds 101 = .ok (.dup2, 1) := by decide +kernel
theorem dL_weds_102 : decode cL_weds 102 = .ok (.iaload, 1) := by decide +kernel
theorem dL_weds_103 : decode cL_weds 103 = .ok (.iconst 4, 1) := by decide +kernel
theorem dL_weds_104 : decode cL_weds 104 = .ok (.iadd, 1) := by decide +kernel
theorem dL_weds_105 : decode cL_weds 105 = .ok (.iastore, 1) := by decide +kernel
theorem dL_weds_106 : decode cL_weds 106 = .ok (.iconst 4, 1) := by decide +kernel
theorem dL_weds_107 : decode cL_weds 107 = .ok (.ireturn, 1) := by decide +kernel
theorem dL_press_0 : decode cL_press 0 = .ok (.aload_n 2, 1) := by decide +kernel
theorem dL_press_1 : decode cL_press 1 = .ok (.invokestatic 72, 3) := by decide +kernel
theorem dL_press_4 : decode cL_press 4 = .ok (.iload_n 0, 1) := by decide +kernel
theorem dL_press_5 : decode cL_press 5 = .ok (.if_icmp .ge 305, 3) := by decide +kernel
theorem dL_press_8 : decode cL_press 8 = .ok (.iconst (-1), 1) := by decide +kernel
theorem dL_press_9 : decode cL_press 9 = .ok (.istore 4, 2) := by decide +kernel
theorem dL_press_11 : decode cL_press 11 = .ok (.bipush 63, 2) := by decide +kernel
theorem dL_press_13 : decode cL_press 13 = .ok (.istore 5, 2) := by decide +kernel
theorem dL_press_15 : decode cL_press 15 = .ok (.iload 5, 2) := by decide +kernel
theorem dL_press_17 : decode cL_press 17 = .ok (.ifCond .lt 61, 3) := by decide +kernel
theorem dL_press_20 : decode cL_press 20 = .ok (.iload 5, 2) := by decide +kernel
theorem dL_press_22 : decode cL_press 22 = .ok (.aload_n 2, 1) := by decide +kernel
theorem dL_press_23 : decode cL_press 23 = .ok (.invokestatic 46, 3) := by decide +kernel
theorem dL_press_26 : decode cL_press 26 = .ok (.istore 6, 2) := by decide +kernel
theorem dL_press_28 : decode cL_press 28 = .ok (.iload 6, 2) := by decide +kernel
theorem dL_press_30 : decode cL_press 30 = .ok (.ifCond .lt 38, 3) := by decide +kernel
theorem dL_press_33 : decode cL_press 33 = .ok (.aload_n 1, 1) := by decide +kernel
theorem dL_press_34 : decode cL_press 34 = .ok (.iconst 1, 1) := by decide +kernel
theorem dL_press_35 : decode cL_press 35 = .ok (.iaload, 1) := by decide +kernel
theorem dL_press_36 : decode cL_press 36 = .ok (.iload 5, 2) := by decide +kernel
theorem dL_press_38 : decode cL_press 38 = .ok (.iconst 4, 1) := by decide +kernel
theorem dL_press_39 : decode cL_press 39 = .ok (.idiv, 1) := by decide +kernel
theorem dL_press_40 : decode cL_press 40 = .ok (.ishr, 1) := by decide +kernel
theorem dL_press_41 : decode cL_press 41 = .ok (.iconst 1, 1) := by decide +kernel
theorem dL_press_42 : decode cL_press 42 = .ok (.iand, 1) := by decide +kernel
theorem dL_press_43 : decode cL_press 43 = .ok (.ifCond .ne 25, 3) := by decide +kernel
theorem dL_press_46 : decode cL_press 46 = .ok (.aload_n 2, 1) := by decide +kernel
theorem dL_press_47 : decode cL_press 47 = .ok (.iload 6, 2) := by decide +kernel
theorem dL_press_49 : decode cL_press 49 = .ok (.laload, 1) := by decide +kernel
theorem dL_press_50 : decode cL_press 50 = .ok (.invokestatic 50, 3) := by decide +kernel
theorem dL_press_53 : decode cL_press 53 = .ok (.ifCond .eq 15, 3) := by decide +kernel
theorem dL_press_56 : decode cL_press 56 = .ok (.aload_n 3, 1) := by decide +kernel
theorem dL_press_57 : decode cL_press 57 = .ok (.iload 6, 2) := by decide +kernel
theorem dL_press_59 : decode cL_press 59 = .ok (.iaload, 1) := by decide +kernel
theorem dL_press_60 : decode cL_press 60 = .ok (.ifCond .ne 8, 3) := by decide +kernel
theorem dL_press_63 : decode cL_press 63 = .ok (.iload 5, 2) := by decide +kernel
theorem dL_press_65 : decode cL_press 65 = .ok (.goto 5, 3) := by decide +kernel
theorem dL_press_68 : decode cL_press 68 = .ok (.iload 4, 2) := by decide +kernel
theorem dL_press_70 : decode cL_press 70 = .ok (.istore 4, 2) := by decide +kernel
theorem dL_press_72 : decode cL_press 72 = .ok (.iinc 5 (-1), 3) := by decide +kernel
theorem dL_press_75 : decode cL_press 75 = .ok (.goto (-60), 3) := by decide +kernel
theorem dL_press_78 : decode cL_press 78 = .ok (.iconst (-1), 1) := by decide +kernel
theorem dL_press_79 : decode cL_press 79 = .ok (.istore 5, 2) := by decide +kernel
theorem dL_press_81 : decode cL_press 81 = .ok (.iconst 0, 1) := by decide +kernel
theorem dL_press_82 : decode cL_press 82 = .ok (.istore 6, 2) := by decide +kernel
theorem dL_press_84 : decode cL_press 84 = .ok (.iconst 0, 1) := by decide +kernel
theorem dL_press_85 : decode cL_press 85 = .ok (.istore 7, 2) := by decide +kernel
theorem dL_press_87 : decode cL_press 87 = .ok (.iload 7, 2) := by decide +kernel
theorem dL_press_89 : decode cL_press 89 = .ok (.bipush 16, 2) := by decide +kernel
theorem dL_press_91 : decode cL_press 91 = .ok (.if_icmp .ge 158, 3) := by decide +kernel
theorem dL_press_94 : decode cL_press 94 = .ok (.iload 4, 2) := by decide +kernel
theorem dL_press_96 : decode cL_press 96 = .ok (.ifCond .ge 153, 3) := by decide +kernel
theorem dL_press_99 : decode cL_press 99 = .ok (.iconst 0, 1) := by decide +kernel
theorem dL_press_100 : decode cL_press 100 = .ok (.istore 8, 2) := by decide +kernel
theorem dL_press_102 : decode cL_press 102 = .ok (.aload_n 1, 1) := by decide +kernel
theorem dL_press_103 : decode cL_press 103 = .ok (.iconst 1, 1) := by decide +kernel
theorem dL_press_104 : decode cL_press 104 = .ok (.iaload, 1) := by decide +kernel
theorem dL_press_105 : decode cL_press 105 = .ok (.iload 7, 2) := by decide +kernel
theorem dL_press_107 : decode cL_press 107 = .ok (.ishr, 1) := by decide +kernel
theorem dL_press_108 : decode cL_press 108 = .ok (.iconst 1, 1) := by decide +kernel
theorem dL_press_109 : decode cL_press 109 = .ok (.iand, 1) := by decide +kernel
theorem dL_press_110 : decode cL_press 110 = .ok (.iconst 1, 1) := by decide +kernel
theorem dL_press_111 : decode cL_press 111 = .ok (.if_icmp .ne 7, 3) := by decide +kernel
theorem dL_press_114 : decode cL_press 114 = .ok (.iconst 1, 1) := by decide +kernel
theorem dL_press_115 : decode cL_press 115 = .ok (.goto 4, 3) := by decide +kernel
theorem dL_press_118 : decode cL_press 118 = .ok (.iconst 0, 1) := by decide +kernel
theorem dL_press_119 : decode cL_press 119 = .ok (.istore 9, 2) := by decide +kernel
theorem dL_press_121 : decode cL_press 121 = .ok (.iconst 4, 1) := by decide +kernel
theorem dL_press_122 : decode cL_press 122 = .ok (.iload 7, 2) := by decide +kernel
theorem dL_press_124 : decode cL_press 124 = .ok (.imul, 1) := by decide +kernel
theorem dL_press_125 : decode cL_press 125 = .ok (.istore 10, 2) := by decide +kernel
theorem dL_press_127 : decode cL_press 127 = .ok (.iload 10, 2) := by decide +kernel
theorem dL_press_129 : decode cL_press 129 = .ok (.iconst 4, 1) := by decide +kernel
theorem dL_press_130 : decode cL_press 130 = .ok (.iload 7, 2) := by decide +kernel
theorem dL_press_132 : decode cL_press 132 = .ok (.imul, 1) := by decide +kernel
theorem dL_press_133 : decode cL_press 133 = .ok (.iconst 4, 1) := by decide +kernel
theorem dL_press_134 : decode cL_press 134 = .ok (.iadd, 1) := by decide +kernel
theorem dL_press_135 : decode cL_press 135 = .ok (.if_icmp .ge 27, 3) := by decide +kernel
theorem dL_press_138 : decode cL_press 138 = .ok (.iload 9, 2) := by decide +kernel
theorem dL_press_140 : decode cL_press 140 = .ok (.ifCond .eq 22, 3) := by decide +kernel
theorem dL_press_143 : decode cL_press 143 = .ok (.aload_n 2, 1) := by decide +kernel
theorem dL_press_144 : decode cL_press 144 = .ok (.iload 10, 2) := by decide +kernel
theorem dL_press_146 : decode cL_press 146 = .ok (.aload_n 2, 1) := by decide +kernel
theorem dL_press_147 : decode cL_press 147 = .ok (.invokestatic 46, 3) := by decide +kernel
theorem dL_press_150 : decode cL_press 150 = .ok (.laload, 1) := by decide +kernel
theorem dL_press_151 : decode cL_press 151 = .ok (.invokestatic 50, 3) := by decide +kernel
theorem dL_press_154 : decode cL_press 154 = .ok (.istore 9, 2) := by decide +kernel
theorem dL_press_156 : decode cL_press 156 = .ok (.iinc 10 1, 3) := by decide +kernel
theorem dL_press_159 : decode cL_press 159 = .ok (.goto (-32), 3) := by decide +kernel
theorem dL_press_162 : decode cL_press 162 = .ok (.iconst 4, 1) := by decide +kernel
theorem dL_press_163 : decode cL_press 163 = .ok (.iload 7, 2) := by decide +kernel
theorem dL_press_165 : decode cL_press 165 = .ok (.imul, 1) := by decide +kernel
theorem dL_press_166 : decode cL_press 166 = .ok (.istore 10, 2) := by decide +kernel
theorem dL_press_168 : decode cL_press 168 = .ok (.iload 10, 2) := by decide +kernel
theorem dL_press_170 : decode cL_press 170 = .ok (.iconst 4, 1) := by decide +kernel
theorem dL_press_171 : decode cL_press 171 = .ok (.iload 7, 2) := by decide +kernel
theorem dL_press_173 : decode cL_press 173 = .ok (.imul, 1) := by decide +kernel
theorem dL_press_174 : decode cL_press 174 = .ok (.iconst 4, 1) := by decide +kernel
theorem dL_press_175 : decode cL_press 175 = .ok (.iadd, 1) := by decide +kernel
theorem dL_press_176 : decode cL_press 176 = .ok (.if_icmp .ge 35, 3) := by decide +kernel
theorem dL_press_179 : decode cL_press 179 = .ok (.iload 9, 2) := by decide +kernel
theorem dL_press_181 : decode cL_press 181 = .ok (.ifCond .eq 30, 3) := by decide +kernel
theorem dL_press_184 : decode cL_press 184 = .ok (.iload 8, 2) := by decide +kernel
theorem dL_press_186 : decode cL_press 186 = .ok (.aload_n 3, 1) := by decide +kernel
theorem dL_press_187 : decode cL_press 187 = .ok (.iload 10, 2) := by decide +kernel
theorem dL_press_189 : decode cL_press 189 = .ok (.aload_n 2, 1) := by decide +kernel
theorem dL_press_190 : decode cL_press 190 = .ok (.invokestatic 46, 3) := by decide +kernel
theorem dL_press_193 : decode cL_press 193 = .ok (.iaload, 1) := by decide +kernel
theorem dL_press_194 : decode cL_press 194 = .ok (.ifCond .ne 7, 3) := by decide +kernel
theorem dL_press_197 : decode cL_press 197 = .ok (.iconst 1, 1) := by decide +kernel
theorem dL_press_198 : decode cL_press 198 = .ok (.goto 4, 3) := by decide +kernel
theorem dL_press_201 : decode cL_press 201 = .ok (.iconst 0, 1) := by decide +kernel
theorem dL_press_202 : decode cL_press 202 = .ok (.iadd, 1) := by decide +kernel
theorem dL_press_203 : decode cL_press 203 = .ok (.istore 8, 2) := by decide +kernel
theorem dL_press_205 : decode cL_press 205 = .ok (.iinc 10 1, 3) := by decide +kernel
theorem dL_press_208 : decode cL_press 208 = .ok (.goto (-40), 3) := by decide +kernel
theorem dL_press_211 : decode cL_press 211 = .ok (.iload 8, 2) := by decide +kernel
theorem dL_press_213 : decode cL_press 213 = .ok (.iload 6, 2) := by decide +kernel
theorem dL_press_215 : decode cL_press 215 = .ok (.if_icmp .le 8, 3) := by decide +kernel
theorem dL_press_218 : decode cL_press 218 = .ok (.iload 7, 2) := by decide +kernel
theorem dL_press_220 : decode cL_press 220 = .ok (.goto 5, 3) := by decide +kernel
theorem dL_press_223 : decode cL_press 223 = .ok (.iload 5, 2) := by decide +kernel
theorem dL_press_225 : decode cL_press 225 = .ok (.istore 5, 2) := by decide +kernel
theorem dL_press_227 : decode cL_press 227 = .ok (.iload 8, 2) := by decide +kernel
theorem dL_press_229 : decode cL_press 229 = .ok (.iload 6, 2) := by decide +kernel
theorem dL_press_231 : decode cL_press 231 = .ok (.if_icmp .le 8, 3) := by decide +kernel
theorem dL_press_234 : decode cL_press 234 = .ok (.iload 8, 2) := by decide +kernel
theorem dL_press_236 : decode cL_press 236 = .ok (.goto 5, 3) := by decide +kernel
theorem dL_press_239 : decode cL_press 239 = .ok (.iload 6, 2) := by decide +kernel
theorem dL_press_241 : decode cL_press 241 = .ok (.istore 6, 2) := by decide +kernel
theorem dL_press_243 : decode cL_press 243 = .ok (.iinc 7 1, 3) := by decide +kernel
theorem dL_press_246 : decode cL_press 246 = .ok (.goto (-159), 3) := by decide +kernel
theorem dL_press_249 : decode cL_press 249 = .ok (.iload 4, 2) := by decide +kernel
theorem dL_press_251 : decode cL_press 251 = .ok (.ifCond .ge 13, 3) := by decide +kernel
theorem dL_press_254 : decode cL_press 254 = .ok (.iload 5, 2) := by decide +kernel
theorem dL_press_256 : decode cL_press 256 = .ok (.ifCond .ge 8, 3) := by decide +kernel
theorem dL_press_259 : decode cL_press 259 = .ok (.aload_n 2, 1) := by decide +kernel
theorem dL_press_260 : decode cL_press 260 = .ok (.invokestatic 72, 3) := by decide +kernel
theorem dL_press_263 : decode cL_press 263 = .ok (.ireturn, 1) := by decide +kernel
theorem dL_press_264 : decode cL_press 264 = .ok (.iload 4, 2) := by decide +kernel
theorem dL_press_266 : decode cL_press 266 = .ok (.ifCond .lt 22, 3) := by decide +kernel
theorem dL_press_269 : decode cL_press 269 = .ok (.aload_n 2, 1) := by decide +kernel
theorem dL_press_270 : decode cL_press 270 = .ok (.iload 4, 2) := by decide +kernel
theorem dL_press_272 : decode cL_press 272 = .ok (.aload_n 2, 1) := by decide +kernel
theorem dL_press_273 : decode cL_press 273 = .ok (.invokestatic 46, 3) := by decide +kernel
theorem dL_press_276 : decode cL_press 276 = .ok (.lconst 0, 1) := by decide +kernel
theorem dL_press_277 : decode cL_press 277 = .ok (.lastore, 1) := by decide +kernel
theorem dL_press_278 : decode cL_press 278 = .ok (.aload_n 1, 1) := by decide +kernel
theorem dL_press_279 : decode cL_press 279 = .ok (.iconst 5, 1) := by decide +kernel
theorem dL_press_280 : decode cL_press 280 = .ok (.dup2, 1) := by decide +kernel
theorem dL_press_281 : decode cL_press 281 = .ok (.iaload, 1) := by decide +kernel
theorem dL_press_282 : decode cL_press 282 = .ok (.iconst 1, 1) := by decide +kernel
theorem dL_press_283 : decode cL_press 283 = .ok (.iadd, 1) := by decide +kernel
theorem dL_press_284 : decode cL_press 284 = .ok (.iastore, 1) := by decide +kernel
theorem dL_press_285 : decode cL_press 285 = .ok (.goto 22, 3) := by decide +kernel
theorem dL_press_288 : decode cL_press 288 = .ok (.aload_n 1, 1) := by decide +kernel
theorem dL_press_289 : decode cL_press 289 = .ok (.iconst 1, 1) := by decide +kernel
theorem dL_press_290 : decode cL_press 290 = .ok (.dup2, 1) := by decide +kernel
theorem dL_press_291 : decode cL_press 291 = .ok (.iaload, 1) := by decide +kernel
theorem dL_press_292 : decode cL_press 292 = .ok (.iconst 1, 1) := by decide +kernel
theorem dL_press_293 : decode cL_press 293 = .ok (.iload 5, 2) := by decide +kernel
theorem dL_press_295 : decode cL_press 295 = .ok (.ishl, 1) := by decide +kernel
theorem dL_press_296 : decode cL_press 296 = .ok (.iconst (-1), 1) := by decide +kernel
theorem dL_press_297 : decode cL_press 297 = .ok (.ixor, 1) := by decide +kernel
theorem dL_press_298 : decode cL_press 298 = .ok (.iand, 1) := by decide +kernel
theorem dL_press_299 : decode cL_press 299 = .ok (.iastore, 1) := by decide +kernel
theorem dL_press_300 : decode cL_press 300 = .ok (.aload_n 1, 1) := by decide +kernel
theorem dL_press_301 : decode cL_press 301 = .ok (.iconst 4, 1) := by decide +kernel
theorem dL_press_302 : decode cL_press 302 = .ok (.dup2, 1) := by decide +kernel
theorem dL_press_303 : decode cL_press 303 = .ok (.iaload, 1) := by decide +kernel
theorem dL_press_304 : decode cL_press 304 = .ok (.iconst 1, 1) := by decide +kernel
theorem dL_press_305 : decode cL_press 305 = .ok (.iadd, 1) := by decide +kernel
theorem dL_press_306 : decode cL_press 306 = .ok (.iastore, 1) := by decide +kernel
theorem dL_press_307 : decode cL_press 307 = .ok (.goto (-307), 3) := by decide +kernel
theorem dL_press_310 : decode cL_press 310 = .ok (.aload_n 2, 1) := by decide +kernel
theorem dL_press_311 : decode cL_press 311 = .ok (.invokestatic 72, 3) := by decide +kernel
theorem dL_press_314 : decode cL_press 314 = .ok (.ireturn, 1) := by decide +kernel
theorem dL_same_0 : decode cL_same 0 = .ok (.iconst 0, 1) := by decide +kernel
theorem dL_same_1 : decode cL_same 1 = .ok (.istore 4, 2) := by decide +kernel
theorem dL_same_3 : decode cL_same 3 = .ok (.iconst 0, 1) := by decide +kernel
theorem dL_same_4 : decode cL_same 4 = .ok (.istore 5, 2) := by decide +kernel
theorem dL_same_6 : decode cL_same 6 = .ok (.iconst 0, 1) := by decide +kernel
theorem dL_same_7 : decode cL_same 7 = .ok (.istore 6, 2) := by decide +kernel
theorem dL_same_9 : decode cL_same 9 = .ok (.iconst 0, 1) := by decide +kernel
theorem dL_same_10 : decode cL_same 10 = .ok (.istore 7, 2) := by decide +kernel
theorem dL_same_12 : decode cL_same 12 = .ok (.iconst 0, 1) := by decide +kernel
theorem dL_same_13 : decode cL_same 13 = .ok (.istore 8, 2) := by decide +kernel
theorem dL_same_15 : decode cL_same 15 = .ok (.iload 8, 2) := by decide +kernel
theorem dL_same_17 : decode cL_same 17 = .ok (.bipush 32, 2) := by decide +kernel
theorem dL_same_19 : decode cL_same 19 = .ok (.if_icmp .ge 133, 3) := by decide +kernel
theorem dL_same_22 : decode cL_same 22 = .ok (.iconst 0, 1) := by decide +kernel
theorem dL_same_23 : decode cL_same 23 = .ok (.istore 9, 2) := by decide +kernel
theorem dL_same_25 : decode cL_same 25 = .ok (.iconst 0, 1) := by decide +kernel
theorem dL_same_26 : decode cL_same 26 = .ok (.istore 10, 2) := by decide +kernel
theorem dL_same_28 : decode cL_same 28 = .ok (.iload 10, 2) := by decide +kernel
theorem dL_same_30 : decode cL_same 30 = .ok (.bipush 64, 2) := by decide +kernel
theorem dL_same_32 : decode cL_same 32 = .ok (.if_icmp .ge 56, 3) := by decide +kernel
theorem dL_same_35 : decode cL_same 35 = .ok (.aload_n 2, 1) := by decide +kernel
theorem dL_same_36 : decode cL_same 36 = .ok (.iload 8, 2) := by decide +kernel
theorem dL_same_38 : decode cL_same 38 = .ok (.laload, 1) := by decide +kernel
theorem dL_same_39 : decode cL_same 39 = .ok (.iload 10, 2) := by decide +kernel
theorem dL_same_41 : decode cL_same 41 = .ok (.lshr, 1) := by decide +kernel
theorem dL_same_42 : decode cL_same 42 = .ok (.lconst 1, 1) := by decide +kernel
theorem dL_same_43 : decode cL_same 43 = .ok (.land, 1) := by decide +kernel
theorem dL_same_44 : decode cL_same 44 = .ok (.lconst 0, 1) := by decide +kernel
theorem dL_same_45 : decode cL_same 45 = .ok (.lcmp, 1) := by decide +kernel
theorem dL_same_46 : decode cL_same 46 = .ok (.ifCond .ne 6, 3) := by decide +kernel
theorem dL_same_49 : decode cL_same 49 = .ok (.goto 33, 3) := by decide +kernel
theorem dL_same_52 : decode cL_same 52 = .ok (.aload_n 0, 1) := by decide +kernel
theorem dL_same_53 : decode cL_same 53 = .ok (.iload 8, 2) := by decide +kernel
theorem dL_same_55 : decode cL_same 55 = .ok (.iload 9, 2) := by decide +kernel
theorem dL_same_57 : decode cL_same 57 = .ok (.iinc 9 1, 3) := by decide +kernel
theorem dL_same_60 : decode cL_same 60 = .ok (.invokevirtual 75, 3) := by decide +kernel
theorem dL_same_63 : decode cL_same 63 = .ok (.bipush 100, 2) := by decide +kernel
theorem dL_same_65 : decode cL_same 65 = .ok (.iload 10, 2) := by decide +kernel
theorem dL_same_67 : decode cL_same 67 = .ok (.bipush 16, 2) := by decide +kernel
theorem dL_same_69 : decode cL_same 69 = .ok (.idiv, 1) := by decide +kernel
theorem dL_same_70 : decode cL_same 70 = .ok (.imul, 1) := by decide +kernel
theorem dL_same_71 : decode cL_same 71 = .ok (.iload 10, 2) := by decide +kernel
theorem dL_same_73 : decode cL_same 73 = .ok (.bipush 16, 2) := by decide +kernel
theorem dL_same_75 : decode cL_same 75 = .ok (.irem, 1) := by decide +kernel
theorem dL_same_76 : decode cL_same 76 = .ok (.iadd, 1) := by decide +kernel
theorem dL_same_77 : decode cL_same 77 = .ok (.if_icmp .eq 5, 3) := by decide +kernel
theorem dL_same_80 : decode cL_same 80 = .ok (.iconst 0, 1) := by decide +kernel
theorem dL_same_81 : decode cL_same 81 = .ok (.ireturn, 1) := by decide +kernel
theorem dL_same_82 : decode cL_same 82 = .ok (.iinc 10 1, 3) := by decide +kernel
theorem dL_same_85 : decode cL_same 85 = .ok (.goto (-57), 3) := by decide +kernel
theorem dL_same_88 : decode cL_same 88 = .ok (.iload 6, 2) := by decide +kernel
theorem dL_same_90 : decode cL_same 90 = .ok (.iload 9, 2) := by decide +kernel
theorem dL_same_92 : decode cL_same 92 = .ok (.iconst 1, 1) := by decide +kernel
theorem dL_same_93 : decode cL_same 93 = .ok (.if_icmp .le 7, 3) := by decide +kernel
theorem dL_same_96 : decode cL_same 96 = .ok (.iconst 1, 1) := by decide +kernel
theorem dL_same_97 : decode cL_same 97 = .ok (.goto 4, 3) := by decide +kernel
theorem dL_same_100 : decode cL_same 100 = .ok (.iconst 0, 1) := by decide +kernel
theorem dL_same_101 : decode cL_same 101 = .ok (.iadd, 1) := by decide +kernel
theorem dL_same_102 : decode cL_same 102 = .ok (.istore 6, 2) := by decide +kernel
theorem dL_same_104 : decode cL_same 104 = .ok (.iload 7, 2) := by decide +kernel
theorem dL_same_106 : decode cL_same 106 = .ok (.iload 8, 2) := by decide +kernel
theorem dL_same_108 : decode cL_same 108 = .ok (.iconst 4, 1) := by decide +kernel
theorem dL_same_109 : decode cL_same 109 = .ok (.irem, 1) := by decide +kernel
theorem dL_same_110 : decode cL_same 110 = .ok (.ifCond .ne 18, 3) := by decide +kernel
theorem dL_same_113 : decode cL_same 113 = .ok (.iload 8, 2) := by decide +kernel
theorem dL_same_115 : decode cL_same 115 = .ok (.iconst 4, 1) := by decide +kernel
theorem dL_same_116 : decode cL_same 116 = .ok (.idiv, 1) := by decide +kernel
theorem dL_same_117 : decode cL_same 117 = .ok (.aload_n 2, 1) := by decide +kernel
theorem dL_same_118 : decode cL_same 118 = .ok (.invokestatic 36, 3) := by decide +kernel
theorem dL_same_121 : decode cL_same 121 = .ok (.ifCond .eq 7, 3) := by decide +kernel
theorem dL_same_124 : decode cL_same 124 = .ok (.iconst 1, 1) := by decide +kernel
theorem dL_same_125 : decode cL_same 125 = .ok (.goto 4, 3) := by decide +kernel
theorem dL_same_128 : decode cL_same 128 = .ok (.iconst 0, 1) := by decide +kernel
theorem dL_same_129 : decode cL_same 129 = .ok (.iadd, 1) := by decide +kernel
theorem dL_same_130 : decode cL_same 130 = .ok (.istore 7, 2) := by decide +kernel
theorem dL_same_132 : decode cL_same 132 = .ok (.aload_n 0, 1) := by decide +kernel
theorem dL_same_133 : decode cL_same 133 = .ok (.iload 8, 2) := by decide +kernel
theorem dL_same_135 : decode cL_same 135 = .ok (.iload 9, 2) := by decide +kernel
theorem dL_same_137 : decode cL_same 137 = .ok (.invokevirtual 75, 3) := by decide +kernel
theorem dL_same_140 : decode cL_same 140 = .ok (.iconst (-1), 1) := by decide +kernel
theorem dL_same_141 : decode cL_same 141 = .ok (.if_icmp .eq 5, 3) := by decide +kernel
theorem dL_same_144 : decode cL_same 144 = .ok (.iconst 0, 1) := by decide +kernel
theorem dL_same_145 : decode cL_same 145 = .ok (.ireturn, 1) := by decide +kernel
theorem dL_same_146 : decode cL_same 146 = .ok (.iinc 8 1, 3) := by decide +kernel
theorem dL_same_149 : decode cL_same 149 = .ok (.goto (-134), 3) := by decide +kernel
theorem dL_same_152 : decode cL_same 152 = .ok (.iconst 0, 1) := by decide +kernel
theorem dL_same_153 : decode cL_same 153 = .ok (.istore 8, 2) := by decide +kernel
theorem dL_same_155 : decode cL_same 155 = .ok (.iload 8, 2) := by decide +kernel
theorem dL_same_157 : decode cL_same 157 = .ok (.bipush 16, 2) := by decide +kernel
theorem dL_same_159 : decode cL_same 159 = .ok (.if_icmp .ge 486, 3) := by decide +kernel
theorem dL_same_162 : decode cL_same 162 = .ok (.aload_n 1, 1) := by decide +kernel
theorem dL_same_163 : decode cL_same 163 = .ok (.iconst 0, 1) := by decide +kernel
theorem dL_same_164 : decode cL_same 164 = .ok (.iaload, 1) := by decide +kernel
theorem dL_same_165 : decode cL_same 165 = .ok (.iload 8, 2) := by decide +kernel
theorem dL_same_167 : decode cL_same 167 = .ok (.iconst 4, 1) := by decide +kernel
theorem dL_same_168 : decode cL_same 168 = .ok (.idiv, 1) := by decide +kernel
theorem dL_same_169 : decode cL_same 169 = .ok (.ishr, 1) := by decide +kernel
theorem dL_same_170 : decode cL_same 170 = .ok (.iconst 1, 1) := by decide +kernel
theorem dL_same_171 : decode cL_same 171 = .ok (.iand, 1) := by decide +kernel
theorem dL_same_172 : decode cL_same 172 = .ok (.ifCond .ne 6, 3) := by decide +kernel
theorem dL_same_175 : decode cL_same 175 = .ok (.goto 464, 3) := by decide +kernel
theorem dL_same_178 : decode cL_same 178 = .ok (.aload_n 1, 1) := by decide +kernel
theorem dL_same_179 : decode cL_same 179 = .ok (.iconst 1, 1) := by decide +kernel
theorem dL_same_180 : decode cL_same 180 = .ok (.iaload, 1) := by decide +kernel
theorem dL_same_181 : decode cL_same 181 = .ok (.iload 8, 2) := by decide +kernel
theorem dL_same_183 : decode cL_same 183 = .ok (.ishr, 1) := by decide +kernel
theorem dL_same_184 : decode cL_same 184 = .ok (.iconst 1, 1) := by decide +kernel
theorem dL_same_185 : decode cL_same 185 = .ok (.iand, 1) := by decide +kernel
theorem dL_same_186 : decode cL_same 186 = .ok (.iconst 1, 1) := by decide +kernel
theorem dL_same_187 : decode cL_same 187 = .ok (.if_icmp .ne 7, 3) := by decide +kernel
theorem dL_same_190 : decode cL_same 190 = .ok (.iconst 1, 1) := by decide +kernel
theorem dL_same_191 : decode cL_same 191 = .ok (.goto 4, 3) := by decide +kernel
theorem dL_same_194 : decode cL_same 194 = .ok (.iconst 0, 1) := by decide +kernel
theorem dL_same_195 : decode cL_same 195 = .ok (.istore 9, 2) := by decide +kernel
theorem dL_same_197 : decode cL_same 197 = .ok (.iload 9, 2) := by decide +kernel
theorem dL_same_199 : decode cL_same 199 = .ok (.ifCond .eq 16, 3) := by decide +kernel
theorem dL_same_202 : decode cL_same 202 = .ok (.iconst 4, 1) := by decide +kernel
theorem dL_same_203 : decode cL_same 203 = .ok (.iload 8, 2) := by decide +kernel
theorem dL_same_205 : decode cL_same 205 = .ok (.imul, 1) := by decide +kernel
theorem dL_same_206 : decode cL_same 206 = .ok (.aload_n 2, 1) := by decide +kernel
theorem dL_same_207 : decode cL_same 207 = .ok (.invokestatic 46, 3) := by decide +kernel
theorem dL_same_210 : decode cL_same 210 = .ok (.iconst 4, 1) := by decide +kernel
theorem dL_same_211 : decode cL_same 211 = .ok (.idiv, 1) := by decide +kernel
theorem dL_same_212 : decode cL_same 212 = .ok (.goto 4, 3) := by decide +kernel
theorem dL_same_215 : decode cL_same 215 = .ok (.iconst (-1), 1) := by decide +kernel
theorem dL_same_216 : decode cL_same 216 = .ok (.istore 10, 2) := by decide +kernel
theorem dL_same_218 : decode cL_same 218 = .ok (.iconst 0, 1) := by decide +kernel
theorem dL_same_219 : decode cL_same 219 = .ok (.istore 11, 2) := by decide +kernel
theorem dL_same_221 : decode cL_same 221 = .ok (.iconst 0, 1) := by decide +kernel
theorem dL_same_222 : decode cL_same 222 = .ok (.istore 12, 2) := by decide +kernel
theorem dL_same_224 : decode cL_same 224 = .ok (.iconst 0, 1) := by decide +kernel
theorem dL_same_225 : decode cL_same 225 = .ok (.istore 13, 2) := by decide +kernel
theorem dL_same_227 : decode cL_same 227 = .ok (.iconst 4, 1) := by decide +kernel
theorem dL_same_228 : decode cL_same 228 = .ok (.iload 8, 2) := by decide +kernel
theorem dL_same_230 : decode cL_same 230 = .ok (.imul, 1) := by decide +kernel
theorem dL_same_231 : decode cL_same 231 = .ok (.istore 14, 2) := by decide +kernel
theorem dL_same_233 : decode cL_same 233 = .ok (.iload 14, 2) := by decide +kernel
theorem dL_same_235 : decode cL_same 235 = .ok (.iconst 4, 1) := by decide +kernel
theorem dL_same_236 : decode cL_same 236 = .ok (.iload 8, 2) := by decide +kernel
theorem dL_same_238 : decode cL_same 238 = .ok (.imul, 1) := by decide +kernel
theorem dL_same_239 : decode cL_same 239 = .ok (.iconst 4, 1) := by decide +kernel
theorem dL_same_240 : decode cL_same 240 = .ok (.iadd, 1) := by decide +kernel
theorem dL_same_241 : decode cL_same 241 = .ok (.if_icmp .ge 162, 3) := by decide +kernel
theorem dL_same_244 : decode cL_same 244 = .ok (.iload 14, 2) := by decide +kernel
theorem dL_same_246 : decode cL_same 246 = .ok (.aload_n 2, 1) := by decide +kernel
theorem dL_same_247 : decode cL_same 247 = .ok (.invokestatic 46, 3) := by decide +kernel
theorem dL_same_250 : decode cL_same 250 = .ok (.istore 15, 2) := by decide +kernel
theorem dL_same_252 : decode cL_same 252 = .ok (.iload 11, 2) := by decide +kernel
theorem dL_same_254 : decode cL_same 254 = .ok (.iload 15, 2) := by decide +kernel
theorem dL_same_256 : decode cL_same 256 = .ok (.ifCond .lt 7, 3) := by decide +kernel
theorem dL_same_259 : decode cL_same 259 = .ok (.iconst 1, 1) := by decide +kernel
theorem dL_same_260 : decode cL_same 260 = .ok (.goto 4, 3) := by decide +kernel
theorem dL_same_263 : decode cL_same 263 = .ok (.iconst 0, 1) := by decide +kernel
theorem dL_same_264 : decode cL_same 264 = .ok (.iadd, 1) := by decide +kernel
theorem dL_same_265 : decode cL_same 265 = .ok (.istore 11, 2) := by decide +kernel
theorem dL_same_267 : decode cL_same 267 = .ok (.iload 12, 2) := by decide +kernel
theorem dL_same_269 : decode cL_same 269 = .ok (.iload 15, 2) := by decide +kernel
theorem dL_same_271 : decode cL_same 271 = .ok (.ifCond .lt 17, 3) := by decide +kernel
theorem dL_same_274 : decode cL_same 274 = .ok (.aload_n 2, 1) := by decide +kernel
theorem dL_same_275 : decode cL_same 275 = .ok (.iload 15, 2) := by decide +kernel
theorem dL_same_277 : decode cL_same 277 = .ok (.laload, 1) := by decide +kernel
theorem dL_same_278 : decode cL_same 278 = .ok (.invokestatic 50, 3) := by decide +kernel
theorem dL_same_281 : decode cL_same 281 = .ok (.ifCond .ne 7, 3) := by decide +kernel
theorem dL_same_284 : decode cL_same 284 = .ok (.iconst 1, 1) := by decide +kernel
theorem dL_same_285 : decode cL_same 285 = .ok (.goto 4, 3) := by decide +kernel
theorem dL_same_288 : decode cL_same 288 = .ok (.iconst 0, 1) := by decide +kernel
theorem dL_same_289 : decode cL_same 289 = .ok (.iadd, 1) := by decide +kernel
theorem dL_same_290 : decode cL_same 290 = .ok (.istore 12, 2) := by decide +kernel
theorem dL_same_292 : decode cL_same 292 = .ok (.aload_n 0, 1) := by decide +kernel
theorem dL_same_293 : decode cL_same 293 = .ok (.iload 14, 2) := by decide +kernel
theorem dL_same_295 : decode cL_same 295 = .ok (.bipush 16, 2) := by decide +kernel
theorem dL_same_297 : decode cL_same 297 = .ok (.idiv, 1) := by decide +kernel
theorem dL_same_298 : decode cL_same 298 = .ok (.iload 14, 2) := by decide +kernel
theorem dL_same_300 : decode cL_same 300 = .ok (.bipush 16, 2) := by decide +kernel
theorem dL_same_302 : decode cL_same 302 = .ok (.irem, 1) := by decide +kernel
theorem dL_same_303 : decode cL_same 303 = .ok (.iconst 0, 1) := by decide +kernel
theorem dL_same_304 : decode cL_same 304 = .ok (.invokevirtual 78, 3) := by decide +kernel
theorem dL_same_307 : decode cL_same 307 = .ok (.iload 15, 2) := by decide +kernel
theorem dL_same_309 : decode cL_same 309 = .ok (.if_icmp .ne 86, 3) := by decide +kernel
theorem dL_same_312 : decode cL_same 312 = .ok (.aload_n 0, 1) := by decide +kernel
theorem dL_same_313 : decode cL_same 313 = .ok (.iload 14, 2) := by decide +kernel
theorem dL_same_315 : decode cL_same 315 = .ok (.bipush 16, 2) := by decide +kernel
theorem dL_same_317 : decode cL_same 317 = .ok (.idiv, 1) := by decide +kernel
theorem dL_same_318 : decode cL_same 318 = .ok (.iload 14, 2) := by decide +kernel
theorem dL_same_320 : decode cL_same 320 = .ok (.bipush 16, 2) := by decide +kernel
theorem dL_same_322 : decode cL_same 322 = .ok (.irem, 1) := by decide +kernel
theorem dL_same_323 : decode cL_same 323 = .ok (.iconst 1, 1) := by decide +kernel
theorem dL_same_324 : decode cL_same 324 = .ok (.invokevirtual 78, 3) := by decide +kernel
theorem dL_same_327 : decode cL_same 327 = .ok (.iload 15, 2) := by decide +kernel
theorem dL_same_329 : decode cL_same 329 = .ok (.ifCond .ge 7, 3) := by decide +kernel
theorem dL_same_332 : decode cL_same 332 = .ok (.iconst (-1), 1) := by decide +kernel
theorem dL_same_333 : decode cL_same 333 = .ok (.goto 7, 3) := by decide +kernel
theorem dL_same_336 : decode cL_same 336 = .ok (.aload_n 3, 1) := by decide +kernel
theorem dL_same_337 : decode cL_same 337 = .ok (.iload 15, 2) := by decide +kernel
theorem dL_same_339 : decode cL_same 339 = .ok (.iaload, 1) := by decide +kernel
theorem dL_same_340 : decode cL_same 340 = .ok (.if_icmp .ne 55, 3) := by decide +kernel
theorem dL_same_343 : decode cL_same 343 = .ok (.aload_n 0, 1) := by decide +kernel
theorem dL_same_344 : decode cL_same 344 = .ok (.iload 14, 2) := by decide +kernel
theorem dL_same_346 : decode cL_same 346 = .ok (.bipush 16, 2) := by decide +kernel
theorem dL_same_348 : decode cL_same 348 = .ok (.idiv, 1) := by decide +kernel
theorem dL_same_349 : decode cL_same 349 = .ok (.iload 14, 2) := by decide +kernel
theorem dL_same_351 : decode cL_same 351 = .ok (.bipush 16, 2) := by decide +kernel
theorem dL_same_353 : decode cL_same 353 = .ok (.irem, 1) := by decide +kernel
theorem dL_same_354 : decode cL_same 354 = .ok (.iconst 3, 1) := by decide +kernel
theorem dL_same_355 : decode cL_same 355 = .ok (.invokevirtual 78, 3) := by decide +kernel
theorem dL_same_358 : decode cL_same 358 = .ok (.iload 9, 2) := by decide +kernel
theorem dL_same_360 : decode cL_same 360 = .ok (.ifCond .eq 7, 3) := by decide +kernel
theorem dL_same_363 : decode cL_same 363 = .ok (.iconst 1, 1) := by decide +kernel
theorem dL_same_364 : decode cL_same 364 = .ok (.goto 4, 3) := by decide +kernel
theorem dL_same_367 : decode cL_same 367 = .ok (.iconst 0, 1) := by decide +kernel
theorem dL_same_368 : decode cL_same 368 = .ok (.if_icmp .ne 27, 3) := by decide +kernel
theorem dL_same_371 : decode cL_same 371 = .ok (.aload_n 0, 1) := by decide +kernel
theorem dL_same_372 : decode cL_same 372 = .ok (.iload 14, 2) := by decide +kernel
theorem dL_same_374 : decode cL_same 374 = .ok (.bipush 16, 2) := by decide +kernel
theorem dL_same_376 : decode cL_same 376 = .ok (.idiv, 1) := by decide +kernel
theorem dL_same_377 : decode cL_same 377 = .ok (.iload 14, 2) := by decide +kernel
theorem dL_same_379 : decode cL_same 379 = .ok (.bipush 16, 2) := by decide +kernel
theorem dL_same_381 : decode cL_same 381 = .ok (.irem, 1) := by decide +kernel
theorem dL_same_382 : decode cL_same 382 = .ok (.invokevirtual 81, 3) := by decide +kernel
theorem dL_same_385 : decode cL_same 385 = .ok (.iload 14, 2) := by decide +kernel
theorem dL_same_387 : decode cL_same 387 = .ok (.aload_n 1, 1) := by decide +kernel
theorem dL_same_388 : decode cL_same 388 = .ok (.aload_n 2, 1) := by decide +kernel
theorem dL_same_389 : decode cL_same 389 = .ok (.invokestatic 60, 3) := by decide +kernel
theorem dL_same_392 : decode cL_same 392 = .ok (.if_icmp .eq 5, 3) := by decide +kernel
theorem dL_same_395 : decode cL_same 395 = .ok (.iconst 0, 1) := by decide +kernel
theorem dL_same_396 : decode cL_same 396 = .ok (.ireturn, 1) := by decide +kernel
theorem dL_same_397 : decode cL_same 397 = .ok (.iinc 14 1, 3) := by decide +kernel
theorem dL_same_400 : decode cL_same 400 = .ok (.goto (-167), 3) := by decide +kernel
theorem dL_same_403 : decode cL_same 403 = .ok (.iconst 0, 1) := by decide +kernel
theorem dL_same_404 : decode cL_same 404 = .ok (.istore 14, 2) := by decide +kernel
theorem dL_same_406 : decode cL_same 406 = .ok (.iload 14, 2) := by decide +kernel
theorem dL_same_408 : decode cL_same 408 = .ok (.bipush 16, 2) := by decide +kernel
theorem dL_same_410 : decode cL_same 410 = .ok (.if_icmp .ge 46, 3) := by decide +kernel
theorem dL_same_413 : decode cL_same 413 = .ok (.iload 13, 2) := by decide +kernel
theorem dL_same_415 : decode cL_same 415 = .ok (.aload_n 1, 1) := by decide +kernel
theorem dL_same_416 : decode cL_same 416 = .ok (.iconst 1, 1) := by decide +kernel
theorem dL_same_417 : decode cL_same 417 = .ok (.iaload, 1) := by decide +kernel
theorem dL_same_418 : decode cL_same 418 = .ok (.iload 14, 2) := by decide +kernel
theorem dL_same_420 : decode cL_same 420 = .ok (.ishr, 1) := by decide +kernel
theorem dL_same_421 : decode cL_same 421 = .ok (.iconst 1, 1) := by decide +kernel
theorem dL_same_422 : decode cL_same 422 = .ok (.iand, 1) := by decide +kernel
theorem dL_same_423 : decode cL_same 423 = .ok (.iconst 1, 1) := by decide +kernel
theorem dL_same_424 : decode cL_same 424 = .ok (.if_icmp .ne 22, 3) := by decide +kernel
theorem dL_same_427 : decode cL_same 427 = .ok (.iconst 4, 1) := by decide +kernel
theorem dL_same_428 : decode cL_same 428 = .ok (.iload 14, 2) := by decide +kernel
theorem dL_same_430 : decode cL_same 430 = .ok (.imul, 1) := by decide +kernel
theorem dL_same_431 : decode cL_same 431 = .ok (.aload_n 2, 1) := by decide +kernel
theorem dL_same_432 : decode cL_same 432 = .ok (.invokestatic 46, 3) := by decide +kernel
theorem dL_same_435 : decode cL_same 435 = .ok (.iconst 4, 1) := by decide +kernel
theorem dL_same_436 : decode cL_same 436 = .ok (.idiv, 1) := by decide +kernel
theorem dL_same_437 : decode cL_same 437 = .ok (.iload 10, 2) := by decide +kernel
theorem dL_same_439 : decode cL_same 439 = .ok (.if_icmp .ne 7, 3) := by decide +kernel
theorem dL_same_442 : decode cL_same 442 = .ok (.iconst 1, 1) := by decide +kernel
theorem dL_same_443 : decode cL_same 443 = .ok (.goto 4, 3) := by decide +kernel
theorem dL_same_446 : decode cL_same 446 = .ok (.iconst 0, 1) := by decide +kernel
theorem dL_same_447 : decode cL_same 447 = .ok (.iadd, 1) := by decide +kernel
theorem dL_same_448 : decode cL_same 448 = .ok (.istore 13, 2) := by decide +kernel
theorem dL_same_450 : decode cL_same 450 = .ok (.iinc 14 1, 3) := by decide +kernel
theorem dL_same_453 : decode cL_same 453 = .ok (.goto (-47), 3) := by decide +kernel
theorem dL_same_456 : decode cL_same 456 = .ok (.iload 9, 2) := by decide +kernel
theorem dL_same_458 : decode cL_same 458 = .ok (.ifCond .eq 18, 3) := by decide +kernel
theorem dL_same_461 : decode cL_same 461 = .ok (.iload 12, 2) := by decide +kernel
theorem dL_same_463 : decode cL_same 463 = .ok (.ifCond .le 13, 3) := by decide +kernel
theorem dL_same_466 : decode cL_same 466 = .ok (.iload 13, 2) := by decide +kernel
theorem dL_same_468 : decode cL_same 468 = .ok (.iconst 1, 1) := by decide +kernel
theorem dL_same_469 : decode cL_same 469 = .ok (.if_icmp .ne 7, 3) := by decide +kernel
theorem dL_same_472 : decode cL_same 472 = .ok (.iconst 1, 1) := by decide +kernel
theorem dL_same_473 : decode cL_same 473 = .ok (.goto 4, 3) := by decide +kernel
theorem dL_same_476 : decode cL_same 476 = .ok (.iconst 0, 1) := by decide +kernel
theorem dL_same_477 : decode cL_same 477 = .ok (.istore 14, 2) := by decide +kernel
theorem dL_same_479 : decode cL_same 479 = .ok (.iload 4, 2) := by decide +kernel
theorem dL_same_481 : decode cL_same 481 = .ok (.iload 9, 2) := by decide +kernel
theorem dL_same_483 : decode cL_same 483 = .ok (.ifCond .eq 7, 3) := by decide +kernel
theorem dL_same_486 : decode cL_same 486 = .ok (.iconst 1, 1) := by decide +kernel
theorem dL_same_487 : decode cL_same 487 = .ok (.goto 4, 3) := by decide +kernel
theorem dL_same_490 : decode cL_same 490 = .ok (.iconst 0, 1) := by decide +kernel
theorem dL_same_491 : decode cL_same 491 = .ok (.iadd, 1) := by decide +kernel
theorem dL_same_492 : decode cL_same 492 = .ok (.istore 4, 2) := by decide +kernel
theorem dL_same_494 : decode cL_same 494 = .ok (.iload 5, 2) := by decide +kernel
theorem dL_same_496 : decode cL_same 496 = .ok (.iload 14, 2) := by decide +kernel
theorem dL_same_498 : decode cL_same 498 = .ok (.ifCond .eq 7, 3) := by decide +kernel
theorem dL_same_501 : decode cL_same 501 = .ok (.iconst 1, 1) := by decide +kernel
theorem dL_same_502 : decode cL_same 502 = .ok (.goto 4, 3) := by decide +kernel
theorem dL_same_505 : decode cL_same 505 = .ok (.iconst 0, 1) := by decide +kernel
theorem dL_same_506 : decode cL_same 506 = .ok (.iadd, 1) := by decide +kernel
theorem dL_same_507 : decode cL_same 507 = .ok (.istore 5, 2) := by decide +kernel
theorem dL_same_509 : decode cL_same 509 = .ok (.aload_n 0, 1) := by decide +kernel
theorem dL_same_510 : decode cL_same 510 = .ok (.iload 8, 2) := by decide +kernel
theorem dL_same_512 : decode cL_same 512 = .ok (.iconst 4, 1) := by decide +kernel
theorem dL_same_513 : decode cL_same 513 = .ok (.idiv, 1) := by decide +kernel
theorem dL_same_514 : decode cL_same 514 = .ok (.iload 8, 2) := by decide +kernel
theorem dL_same_516 : decode cL_same 516 = .ok (.iconst 4, 1) := by decide +kernel
theorem dL_same_517 : decode cL_same 517 = .ok (.irem, 1) := by decide +kernel
theorem dL_same_518 : decode cL_same 518 = .ok (.iconst 0, 1) := by decide +kernel
theorem dL_same_519 : decode cL_same 519 = .ok (.invokevirtual 84, 3) := by decide +kernel
theorem dL_same_522 : decode cL_same 522 = .ok (.iload 11, 2) := by decide +kernel
theorem dL_same_524 : decode cL_same 524 = .ok (.if_icmp .ne 113, 3) := by decide +kernel
theorem dL_same_527 : decode cL_same 527 = .ok (.aload_n 0, 1) := by decide +kernel
theorem dL_same_528 : decode cL_same 528 = .ok (.iload 8, 2) := by decide +kernel
theorem dL_same_530 : decode cL_same 530 = .ok (.iconst 4, 1) := by decide +kernel
theorem dL_same_531 : decode cL_same 531 = .ok (.idiv, 1) := by decide +kernel
theorem dL_same_532 : decode cL_same 532 = .ok (.iload 8, 2) := by decide +kernel
theorem dL_same_534 : decode cL_same 534 = .ok (.iconst 4, 1) := by decide +kernel
theorem dL_same_535 : decode cL_same 535 = .ok (.irem, 1) := by decide +kernel
theorem dL_same_536 : decode cL_same 536 = .ok (.iconst 1, 1) := by decide +kernel
theorem dL_same_537 : decode cL_same 537 = .ok (.invokevirtual 84, 3) := by decide +kernel
theorem dL_same_540 : decode cL_same 540 = .ok (.iload 9, 2) := by decide +kernel
theorem dL_same_542 : decode cL_same 542 = .ok (.ifCond .eq 7, 3) := by decide +kernel
theorem dL_same_545 : decode cL_same 545 = .ok (.iconst 1, 1) := by decide +kernel
theorem dL_same_546 : decode cL_same 546 = .ok (.goto 4, 3) := by decide +kernel
theorem dL_same_549 : decode cL_same 549 = .ok (.iconst 0, 1) := by decide +kernel
theorem dL_same_550 : decode cL_same 550 = .ok (.if_icmp .ne 87, 3) := by decide +kernel
theorem dL_same_553 : decode cL_same 553 = .ok (.aload_n 0, 1) := by decide +kernel
theorem dL_same_554 : decode cL_same 554 = .ok (.iload 8, 2) := by decide +kernel
theorem dL_same_556 : decode cL_same 556 = .ok (.iconst 4, 1) := by decide +kernel
theorem dL_same_557 : decode cL_same 557 = .ok (.idiv, 1) := by decide +kernel
theorem dL_same_558 : decode cL_same 558 = .ok (.iload 8, 2) := by decide +kernel
theorem dL_same_560 : decode cL_same 560 = .ok (.iconst 4, 1) := by decide +kernel
theorem dL_same_561 : decode cL_same 561 = .ok (.irem, 1) := by decide +kernel
theorem dL_same_562 : decode cL_same 562 = .ok (.iconst 2, 1) := by decide +kernel
theorem dL_same_563 : decode cL_same 563 = .ok (.invokevirtual 84, 3) := by decide +kernel
theorem dL_same_566 : decode cL_same 566 = .ok (.iload 14, 2) := by decide +kernel
theorem dL_same_568 : decode cL_same 568 = .ok (.ifCond .eq 7, 3) := by decide +kernel
theorem dL_same_571 : decode cL_same 571 = .ok (.iconst 1, 1) := by decide +kernel
theorem dL_same_572 : decode cL_same 572 = .ok (.goto 4, 3) := by decide +kernel
theorem dL_same_575 : decode cL_same 575 = .ok (.iconst 0, 1) := by decide +kernel
theorem dL_same_576 : decode cL_same 576 = .ok (.if_icmp .ne 61, 3) := by decide +kernel
theorem dL_same_579 : decode cL_same 579 = .ok (.aload_n 0, 1) := by decide +kernel
theorem dL_same_580 : decode cL_same 580 = .ok (.iload 8, 2) := by decide +kernel
theorem dL_same_582 : decode cL_same 582 = .ok (.iconst 4, 1) := by decide +kernel
theorem dL_same_583 : decode cL_same 583 = .ok (.idiv, 1) := by decide +kernel
theorem dL_same_584 : decode cL_same 584 = .ok (.iload 8, 2) := by decide +kernel
theorem dL_same_586 : decode cL_same 586 = .ok (.iconst 4, 1) := by decide +kernel
theorem dL_same_587 : decode cL_same 587 = .ok (.irem, 1) := by decide +kernel
theorem dL_same_588 : decode cL_same 588 = .ok (.iconst 3, 1) := by decide +kernel
theorem dL_same_589 : decode cL_same 589 = .ok (.invokevirtual 84, 3) := by decide +kernel
theorem dL_same_592 : decode cL_same 592 = .ok (.iload 12, 2) := by decide +kernel
theorem dL_same_594 : decode cL_same 594 = .ok (.if_icmp .ne 43, 3) := by decide +kernel
theorem dL_same_597 : decode cL_same 597 = .ok (.aload_n 0, 1) := by decide +kernel
theorem dL_same_598 : decode cL_same 598 = .ok (.iload 8, 2) := by decide +kernel
theorem dL_same_600 : decode cL_same 600 = .ok (.iconst 4, 1) := by decide +kernel
theorem dL_same_601 : decode cL_same 601 = .ok (.idiv, 1) := by decide +kernel
theorem dL_same_602 : decode cL_same 602 = .ok (.iload 8, 2) := by decide +kernel
theorem dL_same_604 : decode cL_same 604 = .ok (.iconst 4, 1) := by decide +kernel
theorem dL_same_605 : decode cL_same 605 = .ok (.irem, 1) := by decide +kernel
theorem dL_same_606 : decode cL_same 606 = .ok (.iconst 4, 1) := by decide +kernel
theorem dL_same_607 : decode cL_same 607 = .ok (.invokevirtual 84, 3) := by decide +kernel
theorem dL_same_610 : decode cL_same 610 = .ok (.iload 10, 2) := by decide +kernel
theorem dL_same_612 : decode cL_same 612 = .ok (.if_icmp .ne 25, 3) := by decide +kernel
theorem dL_same_615 : decode cL_same 615 = .ok (.aload_n 0, 1) := by decide +kernel
theorem dL_same_616 : decode cL_same 616 = .ok (.iload 8, 2) := by decide +kernel
theorem dL_same_618 : decode cL_same 618 = .ok (.iconst 4, 1) := by decide +kernel
theorem dL_same_619 : decode cL_same 619 = .ok (.idiv, 1) := by decide +kernel
theorem dL_same_620 : decode cL_same 620 = .ok (.iload 8, 2) := by decide +kernel
theorem dL_same_622 : decode cL_same 622 = .ok (.iconst 4, 1) := by decide +kernel
theorem dL_same_623 : decode cL_same 623 = .ok (.irem, 1) := by decide +kernel
theorem dL_same_624 : decode cL_same 624 = .ok (.invokevirtual 87, 3) := by decide +kernel
theorem dL_same_627 : decode cL_same 627 = .ok (.iload 8, 2) := by decide +kernel
theorem dL_same_629 : decode cL_same 629 = .ok (.aload_n 1, 1) := by decide +kernel
theorem dL_same_630 : decode cL_same 630 = .ok (.aload_n 2, 1) := by decide +kernel
theorem dL_same_631 : decode cL_same 631 = .ok (.invokestatic 69, 3) := by decide +kernel
theorem dL_same_634 : decode cL_same 634 = .ok (.if_icmp .eq 5, 3) := by decide +kernel
theorem dL_same_637 : decode cL_same 637 = .ok (.iconst 0, 1) := by decide +kernel
theorem dL_same_638 : decode cL_same 638 = .ok (.ireturn, 1) := by decide +kernel
theorem dL_same_639 : decode cL_same 639 = .ok (.iinc 8 1, 3) := by decide +kernel
theorem dL_same_642 : decode cL_same 642 = .ok (.goto (-487), 3) := by decide +kernel
theorem dL_same_645 : decode cL_same 645 = .ok (.aload_n 0, 1) := by decide +kernel
theorem dL_same_646 : decode cL_same 646 = .ok (.iconst 0, 1) := by decide +kernel
theorem dL_same_647 : decode cL_same 647 = .ok (.invokevirtual 90, 3) := by decide +kernel
theorem dL_same_650 : decode cL_same 650 = .ok (.aload_n 1, 1) := by decide +kernel
theorem dL_same_651 : decode cL_same 651 = .ok (.iconst 0, 1) := by decide +kernel
theorem dL_same_652 : decode cL_same 652 = .ok (.iaload, 1) := by decide +kernel
theorem dL_same_653 : decode cL_same 653 = .ok (.if_icmp .ne 120, 3) := by decide +kernel
theorem dL_same_656 : decode cL_same 656 = .ok (.aload_n 0, 1) := by decide +kernel
theorem dL_same_657 : decode cL_same 657 = .ok (.iconst 1, 1) := by decide +kernel
theorem dL_same_658 : decode cL_same 658 = .ok (.invokevirtual 90, 3) := by decide +kernel
theorem dL_same_661 : decode cL_same 661 = .ok (.aload_n 2, 1) := by decide +kernel
theorem dL_same_662 : decode cL_same 662 = .ok (.invokestatic 72, 3) := by decide +kernel
theorem dL_same_665 : decode cL_same 665 = .ok (.if_icmp .ne 108, 3) := by decide +kernel
theorem dL_same_668 : decode cL_same 668 = .ok (.aload_n 0, 1) := by decide +kernel
theorem dL_same_669 : decode cL_same 669 = .ok (.iconst 2, 1) := by decide +kernel
theorem dL_same_670 : decode cL_same 670 = .ok (.invokevirtual 90, 3) := by decide +kernel
theorem dL_same_673 : decode cL_same 673 = .ok (.iload 7, 2) := by decide +kernel
theorem dL_same_675 : decode cL_same 675 = .ok (.if_icmp .ne 98, 3) := by decide +kernel
theorem dL_same_678 : decode cL_same 678 = .ok (.aload_n 0, 1) := by decide +kernel
theorem dL_same_679 : decode cL_same 679 = .ok (.iconst 3, 1) := by decide +kernel
theorem dL_same_680 : decode cL_same 680 = .ok (.invokevirtual 90, 3) := by decide +kernel
theorem dL_same_683 : decode cL_same 683 = .ok (.iload 4, 2) := by decide +kernel
theorem dL_same_685 : decode cL_same 685 = .ok (.if_icmp .ne 88, 3) := by decide +kernel
theorem dL_same_688 : decode cL_same 688 = .ok (.aload_n 0, 1) := by decide +kernel
theorem dL_same_689 : decode cL_same 689 = .ok (.iconst 4, 1) := by decide +kernel
theorem dL_same_690 : decode cL_same 690 = .ok (.invokevirtual 90, 3) := by decide +kernel
theorem dL_same_693 : decode cL_same 693 = .ok (.iload 5, 2) := by decide +kernel
theorem dL_same_695 : decode cL_same 695 = .ok (.if_icmp .ne 78, 3) := by decide +kernel
theorem dL_same_698 : decode cL_same 698 = .ok (.aload_n 0, 1) := by decide +kernel
theorem dL_same_699 : decode cL_same 699 = .ok (.iconst 5, 1) := by decide +kernel
theorem dL_same_700 : decode cL_same 700 = .ok (.invokevirtual 90, 3) := by decide +kernel
theorem dL_same_703 : decode cL_same 703 = .ok (.iload 6, 2) := by decide +kernel
theorem dL_same_705 : decode cL_same 705 = .ok (.if_icmp .ne 68, 3) := by decide +kernel
theorem dL_same_708 : decode cL_same 708 = .ok (.aload_n 0, 1) := by decide +kernel
theorem dL_same_709 : decode cL_same 709 = .ok (.bipush 6, 2) := by decide +kernel
theorem dL_same_711 : decode cL_same 711 = .ok (.invokevirtual 90, 3) := by decide +kernel
theorem dL_same_714 : decode cL_same 714 = .ok (.aload_n 1, 1) := by decide +kernel
theorem dL_same_715 : decode cL_same 715 = .ok (.iconst 2, 1) := by decide +kernel
theorem dL_same_716 : decode cL_same 716 = .ok (.iaload, 1) := by decide +kernel
theorem dL_same_717 : decode cL_same 717 = .ok (.if_icmp .ne 56, 3) := by decide +kernel
theorem dL_same_720 : decode cL_same 720 = .ok (.aload_n 0, 1) := by decide +kernel
theorem dL_same_721 : decode cL_same 721 = .ok (.bipush 7, 2) := by decide +kernel
theorem dL_same_723 : decode cL_same 723 = .ok (.invokevirtual 90, 3) := by decide +kernel
theorem dL_same_726 : decode cL_same 726 = .ok (.aload_n 1, 1) := by decide +kernel
theorem dL_same_727 : decode cL_same 727 = .ok (.iconst 3, 1) := by decide +kernel
theorem dL_same_728 : decode cL_same 728 = .ok (.iaload, 1) := by decide +kernel
theorem dL_same_729 : decode cL_same 729 = .ok (.if_icmp .ne 44, 3) := by decide +kernel
theorem dL_same_732 : decode cL_same 732 = .ok (.aload_n 0, 1) := by decide +kernel
theorem dL_same_733 : decode cL_same 733 = .ok (.bipush 8, 2) := by decide +kernel
theorem dL_same_735 : decode cL_same 735 = .ok (.invokevirtual 90, 3) := by decide +kernel
theorem dL_same_738 : decode cL_same 738 = .ok (.aload_n 1, 1) := by decide +kernel
theorem dL_same_739 : decode cL_same 739 = .ok (.iconst 4, 1) := by decide +kernel
theorem dL_same_740 : decode cL_same 740 = .ok (.iaload, 1) := by decide +kernel
theorem dL_same_741 : decode cL_same 741 = .ok (.if_icmp .ne 32, 3) := by decide +kernel
theorem dL_same_744 : decode cL_same 744 = .ok (.aload_n 0, 1) := by decide +kernel
theorem dL_same_745 : decode cL_same 745 = .ok (.bipush 9, 2) := by decide +kernel
theorem dL_same_747 : decode cL_same 747 = .ok (.invokevirtual 90, 3) := by decide +kernel
theorem dL_same_750 : decode cL_same 750 = .ok (.aload_n 1, 1) := by decide +kernel
theorem dL_same_751 : decode cL_same 751 = .ok (.iconst 5, 1) := by decide +kernel
theorem dL_same_752 : decode cL_same 752 = .ok (.iaload, 1) := by decide +kernel
theorem dL_same_753 : decode cL_same 753 = .ok (.if_icmp .ne 20, 3) := by decide +kernel
theorem dL_same_756 : decode cL_same 756 = .ok (.aload_n 0, 1) := by decide +kernel
theorem dL_same_757 : decode cL_same 757 = .ok (.bipush 10, 2) := by decide +kernel
theorem dL_same_759 : decode cL_same 759 = .ok (.invokevirtual 90, 3) := by decide +kernel
theorem dL_same_762 : decode cL_same 762 = .ok (.aload_n 1, 1) := by decide +kernel
theorem dL_same_763 : decode cL_same 763 = .ok (.bipush 6, 2) := by decide +kernel
theorem dL_same_765 : decode cL_same 765 = .ok (.iaload, 1) := by decide +kernel
theorem dL_same_766 : decode cL_same 766 = .ok (.if_icmp .ne 7, 3) := by decide +kernel
theorem dL_same_769 : decode cL_same 769 = .ok (.iconst 1, 1) := by decide +kernel
theorem dL_same_770 : decode cL_same 770 = .ok (.goto 4, 3) := by decide +kernel
theorem dL_same_773 : decode cL_same 773 = .ok (.iconst 0, 1) := by decide +kernel
theorem dL_same_774 : decode cL_same 774 = .ok (.ireturn, 1) := by decide +kernel
theorem dL_copy_0 : decode cL_copy 0 = .ok (.iconst 0, 1) := by decide +kernel
theorem dL_copy_1 : decode cL_copy 1 = .ok (.istore 6, 2) := by decide +kernel
theorem dL_copy_3 : decode cL_copy 3 = .ok (.iload 6, 2) := by decide +kernel
theorem dL_copy_5 : decode cL_copy 5 = .ok (.bipush 7, 2) := by decide +kernel
theorem dL_copy_7 : decode cL_copy 7 = .ok (.if_icmp .ge 17, 3) := by decide +kernel
theorem dL_copy_10 : decode cL_copy 10 = .ok (.aload_n 3, 1) := by decide +kernel
theorem dL_copy_11 : decode cL_copy 11 = .ok (.iload 6, 2) := by decide +kernel
theorem dL_copy_13 : decode cL_copy 13 = .ok (.aload_n 0, 1) := by decide +kernel
theorem dL_copy_14 : decode cL_copy 14 = .ok (.iload 6, 2) := by decide +kernel
theorem dL_copy_16 : decode cL_copy 16 = .ok (.iaload, 1) := by decide +kernel
theorem dL_copy_17 : decode cL_copy 17 = .ok (.iastore, 1) := by decide +kernel
theorem dL_copy_18 : decode cL_copy 18 = .ok (.iinc 6 1, 3) := by decide +kernel
theorem dL_copy_21 : decode cL_copy 21 = .ok (.goto (-18), 3) := by decide +kernel
theorem dL_copy_24 : decode cL_copy 24 = .ok (.iconst 0, 1) := by decide +kernel
theorem dL_copy_25 : decode cL_copy 25 = .ok (.istore 6, 2) := by decide +kernel
theorem dL_copy_27 : decode cL_copy 27 = .ok (.iload 6, 2) := by decide +kernel
theorem dL_copy_29 : decode cL_copy 29 = .ok (.bipush 32, 2) := by decide +kernel
theorem dL_copy_31 : decode cL_copy 31 = .ok (.if_icmp .ge 27, 3) := by decide +kernel
theorem dL_copy_34 : decode cL_copy 34 = .ok (.aload 4, 2) := by decide +kernel
theorem dL_copy_36 : decode cL_copy 36 = .ok (.iload 6, 2) := by decide +kernel
theorem dL_copy_38 : decode cL_copy 38 = .ok (.aload_n 1, 1) := by decide +kernel
theorem dL_copy_39 : decode cL_copy 39 = .ok (.iload 6, 2) := by decide +kernel
theorem dL_copy_41 : decode cL_copy 41 = .ok (.laload, 1) := by decide +kernel
theorem dL_copy_42 : decode cL_copy 42 = .ok (.lastore, 1) := by decide +kernel
theorem dL_copy_43 : decode cL_copy 43 = .ok (.aload 5, 2) := by decide +kernel
theorem dL_copy_45 : decode cL_copy 45 = .ok (.iload 6, 2) := by decide +kernel
theorem dL_copy_47 : decode cL_copy 47 = .ok (.aload_n 2, 1) := by decide +kernel
theorem dL_copy_48 : decode cL_copy 48 = .ok (.iload 6, 2) := by decide +kernel
theorem dL_copy_50 : decode cL_copy 50 = .ok (.iaload, 1) := by decide +kernel
theorem dL_copy_51 : decode cL_copy 51 = .ok (.iastore, 1) := by decide +kernel
theorem dL_copy_52 : decode cL_copy 52 = .ok (.iinc 6 1, 3) := by decide +kernel
theorem dL_copy_55 : decode cL_copy 55 = .ok (.goto (-28), 3) := by decide +kernel
theorem dL_copy_58 : decode cL_copy 58 = .ok (.return_, 1) := by decide +kernel
theorem dL_could_0 : decode cL_could 0 = .ok (.aload_n 2, 1) := by decide +kernel
theorem dL_could_1 : decode cL_could 1 = .ok (.aload_n 3, 1) := by decide +kernel
theorem dL_could_2 : decode cL_could 2 = .ok (.aload 4, 2) := by decide +kernel
theorem dL_could_4 : decode cL_could 4 = .ok (.aload 5, 2) := by decide +kernel
theorem dL_could_6 : decode cL_could 6 = .ok (.aload 6, 2) := by decide +kernel
theorem dL_could_8 : decode cL_could 8 = .ok (.aload 7, 2) := by decide +kernel
theorem dL_could_10 : decode cL_could 10 = .ok (.invokestatic 93, 3) := by decide +kernel
theorem dL_could_13 : decode cL_could 13 = .ok (.iconst 0, 1) := by decide +kernel
theorem dL_could_14 : decode cL_could 14 = .ok (.istore 8, 2) := by decide +kernel
theorem dL_could_16 : decode cL_could 16 = .ok (.iconst 0, 1) := by decide +kernel
theorem dL_could_17 : decode cL_could 17 = .ok (.istore 9, 2) := by decide +kernel
theorem dL_could_19 : decode cL_could 19 = .ok (.iload 9, 2) := by decide +kernel
theorem dL_could_21 : decode cL_could 21 = .ok (.bipush 17, 2) := by decide +kernel
theorem dL_could_23 : decode cL_could 23 = .ok (.if_icmp .ge 179, 3) := by decide +kernel
theorem dL_could_26 : decode cL_could 26 = .ok (.iconst (-1), 1) := by decide +kernel
theorem dL_could_27 : decode cL_could 27 = .ok (.istore 10, 2) := by decide +kernel
theorem dL_could_29 : decode cL_could 29 = .ok (.bipush 15, 2) := by decide +kernel
theorem dL_could_31 : decode cL_could 31 = .ok (.istore 11, 2) := by decide +kernel
theorem dL_could_33 : decode cL_could 33 = .ok (.iload 11, 2) := by decide +kernel
theorem dL_could_35 : decode cL_could 35 = .ok (.ifCond .lt 55, 3) := by decide +kernel
theorem dL_could_38 : decode cL_could 38 = .ok (.aload 5, 2) := by decide +kernel
theorem dL_could_40 : decode cL_could 40 = .ok (.iconst 0, 1) := by decide +kernel
theorem dL_could_41 : decode cL_could 41 = .ok (.iaload, 1) := by decide +kernel
theorem dL_could_42 : decode cL_could 42 = .ok (.iload 11, 2) := by decide +kernel
theorem dL_could_44 : decode cL_could 44 = .ok (.iconst 4, 1) := by decide +kernel
theorem dL_could_45 : decode cL_could 45 = .ok (.idiv, 1) := by decide +kernel
theorem dL_could_46 : decode cL_could 46 = .ok (.ishr, 1) := by decide +kernel
theorem dL_could_47 : decode cL_could 47 = .ok (.iconst 1, 1) := by decide +kernel
theorem dL_could_48 : decode cL_could 48 = .ok (.iand, 1) := by decide +kernel
theorem dL_could_49 : decode cL_could 49 = .ok (.iconst 1, 1) := by decide +kernel
theorem dL_could_50 : decode cL_could 50 = .ok (.if_icmp .ne 30, 3) := by decide +kernel
theorem dL_could_53 : decode cL_could 53 = .ok (.iload 11, 2) := by decide +kernel
theorem dL_could_55 : decode cL_could 55 = .ok (.aload 5, 2) := by decide +kernel
theorem dL_could_57 : decode cL_could 57 = .ok (.aload 6, 2) := by decide +kernel
theorem dL_could_59 : decode cL_could 59 = .ok (.invokestatic 69, 3) := by decide +kernel
theorem dL_could_62 : decode cL_could 62 = .ok (.ifCond .ne 18, 3) := by decide +kernel
theorem dL_could_65 : decode cL_could 65 = .ok (.iload 11, 2) := by decide +kernel
theorem dL_could_67 : decode cL_could 67 = .ok (.aload 6, 2) := by decide +kernel
theorem dL_could_69 : decode cL_could 69 = .ok (.invokestatic 66, 3) := by decide +kernel
theorem dL_could_72 : decode cL_could 72 = .ok (.ifCond .ne 8, 3) := by decide +kernel
theorem dL_could_75 : decode cL_could 75 = .ok (.iload 11, 2) := by decide +kernel
theorem dL_could_77 : decode cL_could 77 = .ok (.goto 5, 3) := by decide +kernel
theorem dL_could_80 : decode cL_could 80 = .ok (.iload 10, 2) := by decide +kernel
theorem dL_could_82 : decode cL_could 82 = .ok (.istore 10, 2) := by decide +kernel
theorem dL_could_84 : decode cL_could 84 = .ok (.iinc 11 (-1), 3) := by decide +kernel
theorem dL_could_87 : decode cL_could 87 = .ok (.goto (-54), 3) := by decide +kernel
theorem dL_could_90 : decode cL_could 90 = .ok (.bipush 15, 2) := by decide +kernel
theorem dL_could_92 : decode cL_could 92 = .ok (.istore 11, 2) := by decide +kernel
theorem dL_could_94 : decode cL_could 94 = .ok (.iload 11, 2) := by decide +kernel
theorem dL_could_96 : decode cL_could 96 = .ok (.ifCond .lt 77, 3) := by decide +kernel
theorem dL_could_99 : decode cL_could 99 = .ok (.aload 5, 2) := by decide +kernel
theorem dL_could_101 : decode cL_could 101 = .ok (.iconst 0, 1) := by decide +kernel
theorem dL_could_102 : decode cL_could 102 = .ok (.iaload, 1) := by decide +kernel
theorem dL_could_103 : decode cL_could 103 = .ok (.iload 11, 2) := by decide +kernel
theorem dL_could_105 : decode cL_could 105 = .ok (.iconst 4, 1) := by decide +kernel
theorem dL_could_106 : decode cL_could 106 = .ok (.idiv, 1) := by decide +kernel
theorem dL_could_107 : decode cL_could 107 = .ok (.ishr, 1) := by decide +kernel
theorem dL_could_108 : decode cL_could 108 = .ok (.iconst 1, 1) := by decide +kernel
theorem dL_could_109 : decode cL_could 109 = .ok (.iand, 1) := by decide +kernel
theorem dL_could_110 : decode cL_could 110 = .ok (.iconst 1, 1) := by decide +kernel
theorem dL_could_111 : decode cL_could 111 = .ok (.if_icmp .ne 52, 3) := by decide +kernel
theorem dL_could_114 : decode cL_could 114 = .ok (.iload 11, 2) := by decide +kernel
theorem dL_could_116 : decode cL_could 116 = .ok (.aload 5, 2) := by decide +kernel
theorem dL_could_118 : decode cL_could 118 = .ok (.aload 6, 2) := by decide +kernel
theorem dL_could_120 : decode cL_could 120 = .ok (.invokestatic 69, 3) := by decide +kernel
theorem dL_could_123 : decode cL_could 123 = .ok (.ifCond .ne 40, 3) := by decide +kernel
theorem dL_could_126 : decode cL_could 126 = .ok (.iload 11, 2) := by decide +kernel
theorem dL_could_128 : decode cL_could 128 = .ok (.aload 6, 2) := by decide +kernel
theorem dL_could_130 : decode cL_could 130 = .ok (.invokestatic 66, 3) := by decide +kernel
theorem dL_could_133 : decode cL_could 133 = .ok (.ifCond .eq 30, 3) := by decide +kernel
theorem dL_could_136 : decode cL_could 136 = .ok (.iload 10, 2) := by decide +kernel
theorem dL_could_138 : decode cL_could 138 = .ok (.ifCond .lt 20, 3) := by decide +kernel
theorem dL_could_141 : decode cL_could 141 = .ok (.iload 10, 2) := by decide +kernel
theorem dL_could_143 : decode cL_could 143 = .ok (.aload 6, 2) := by decide +kernel
theorem dL_could_145 : decode cL_could 145 = .ok (.invokestatic 66, 3) := by decide +kernel
theorem dL_could_148 : decode cL_could 148 = .ok (.ifCond .eq 10, 3) := by decide +kernel
theorem dL_could_151 : decode cL_could 151 = .ok (.iload 11, 2) := by decide +kernel
theorem dL_could_153 : decode cL_could 153 = .ok (.iload 10, 2) := by decide +kernel
theorem dL_could_155 : decode cL_could 155 = .ok (.if_icmp .ge 8, 3) := by decide +kernel
theorem dL_could_158 : decode cL_could 158 = .ok (.iload 11, 2) := by decide +kernel
theorem dL_could_160 : decode cL_could 160 = .ok (.goto 5, 3) := by decide +kernel
theorem dL_could_163 : decode cL_could 163 = .ok (.iload 10, 2) := by decide +kernel
theorem dL_could_165 : decode cL_could 165 = .ok (.istore 10, 2) := by decide +kernel
theorem dL_could_167 : decode cL_could 167 = .ok (.iinc 11 (-1), 3) := by decide +kernel
theorem dL_could_170 : decode cL_could 170 = .ok (.goto (-76), 3) := by decide +kernel
theorem dL_could_173 : decode cL_could 173 = .ok (.iload 10, 2) := by decide +kernel
theorem dL_could_175 : decode cL_could 175 = .ok (.ifCond .ge 6, 3) := by decide +kernel
theorem dL_could_178 : decode cL_could 178 = .ok (.goto 18, 3) := by decide +kernel
theorem dL_could_181 : decode cL_could 181 = .ok (.iload 10, 2) := by decide +kernel
theorem dL_could_183 : decode cL_could 183 = .ok (.aload 5, 2) := by decide +kernel
theorem dL_could_185 : decode cL_could 185 = .ok (.aload 6, 2) := by decide +kernel
theorem dL_could_187 : decode cL_could 187 = .ok (.aload 7, 2) := by decide +kernel
theorem dL_could_189 : decode cL_could 189 = .ok (.invokestatic 97, 3) := by decide +kernel
theorem dL_could_192 : decode cL_could 192 = .ok (.pop, 1) := by decide +kernel
theorem dL_could_193 : decode cL_could 193 = .ok (.iinc 8 1, 3) := by decide +kernel
theorem dL_could_196 : decode cL_could 196 = .ok (.iinc 9 1, 3) := by decide +kernel
theorem dL_could_199 : decode cL_could 199 = .ok (.goto (-180), 3) := by decide +kernel
theorem dL_could_202 : decode cL_could 202 = .ok (.aload_n 0, 1) := by decide +kernel
theorem dL_could_203 : decode cL_could 203 = .ok (.invokevirtual 101, 3) := by decide +kernel
theorem dL_could_206 : decode cL_could 206 = .ok (.iload 8, 2) := by decide +kernel
theorem dL_could_208 : decode cL_could 208 = .ok (.if_icmp .eq 5, 3) := by decide +kernel
theorem dL_could_211 : decode cL_could 211 = .ok (.iconst 0, 1) := by decide +kernel
theorem dL_could_212 : decode cL_could 212 = .ok (.ireturn, 1) := by decide +kernel
theorem dL_could_213 : decode cL_could 213 = .ok (.aload_n 2, 1) := by decide +kernel
theorem dL_could_214 : decode cL_could 214 = .ok (.aload_n 3, 1) := by decide +kernel
theorem dL_could_215 : decode cL_could 215 = .ok (.aload 4, 2) := by decide +kernel
theorem dL_could_217 : decode cL_could 217 = .ok (.aload 5, 2) := by decide +kernel
theorem dL_could_219 : decode cL_could 219 = .ok (.aload 6, 2) := by decide +kernel
theorem dL_could_221 : decode cL_could 221 = .ok (.aload 7, 2) := by decide +kernel
theorem dL_could_223 : decode cL_could 223 = .ok (.invokestatic 93, 3) := by decide +kernel
theorem dL_could_226 : decode cL_could 226 = .ok (.aload_n 0, 1) := by decide +kernel
theorem dL_could_227 : decode cL_could 227 = .ok (.invokevirtual 105, 3) := by decide +kernel
theorem dL_could_230 : decode cL_could 230 = .ok (.bipush 32, 2) := by decide +kernel
theorem dL_could_232 : decode cL_could 232 = .ok (.aload 5, 2) := by decide +kernel
theorem dL_could_234 : decode cL_could 234 = .ok (.aload 6, 2) := by decide +kernel
theorem dL_could_236 : decode cL_could 236 = .ok (.aload 7, 2) := by decide +kernel
theorem dL_could_238 : decode cL_could 238 = .ok (.invokestatic 108, 3) := by decide +kernel
theorem dL_could_241 : decode cL_could 241 = .ok (.if_icmp .eq 5, 3) := by decide +kernel
theorem dL_could_244 : decode cL_could 244 = .ok (.iconst 0, 1) := by decide +kernel
theorem dL_could_245 : decode cL_could 245 = .ok (.ireturn, 1) := by decide +kernel
theorem dL_could_246 : decode cL_could 246 = .ok (.aload_n 2, 1) := by decide +kernel
theorem dL_could_247 : decode cL_could 247 = .ok (.aload_n 3, 1) := by decide +kernel
theorem dL_could_248 : decode cL_could 248 = .ok (.aload 4, 2) := by decide +kernel
theorem dL_could_250 : decode cL_could 250 = .ok (.aload 5, 2) := by decide +kernel
theorem dL_could_252 : decode cL_could 252 = .ok (.aload 6, 2) := by decide +kernel
theorem dL_could_254 : decode cL_could 254 = .ok (.aload 7, 2) := by decide +kernel
theorem dL_could_256 : decode cL_could 256 = .ok (.invokestatic 93, 3) := by decide +kernel
theorem dL_could_259 : decode cL_could 259 = .ok (.iconst 0, 1) := by decide +kernel
theorem dL_could_260 : decode cL_could 260 = .ok (.istore 9, 2) := by decide +kernel
theorem dL_could_262 : decode cL_could 262 = .ok (.iload 9, 2) := by decide +kernel
theorem dL_could_264 : decode cL_could 264 = .ok (.bipush 16, 2) := by decide +kernel
theorem dL_could_266 : decode cL_could 266 = .ok (.if_icmp .ge 29, 3) := by decide +kernel
theorem dL_could_269 : decode cL_could 269 = .ok (.bipush 16, 2) := by decide +kernel
theorem dL_could_271 : decode cL_could 271 = .ok (.iload_n 1, 1) := by decide +kernel
theorem dL_could_272 : decode cL_could 272 = .ok (.imul, 1) := by decide +kernel
theorem dL_could_273 : decode cL_could 273 = .ok (.iload 9, 2) := by decide +kernel
theorem dL_could_275 : decode cL_could 275 = .ok (.iadd, 1) := by decide +kernel
theorem dL_could_276 : decode cL_could 276 = .ok (.iconst 1, 1) := by decide +kernel
theorem dL_could_277 : decode cL_could 277 = .ok (.aload 5, 2) := by decide +kernel
theorem dL_could_279 : decode cL_could 279 = .ok (.aload 6, 2) := by decide +kernel
theorem dL_could_281 : decode cL_could 281 = .ok (.aload 7, 2) := by decide +kernel
theorem dL_could_283 : decode cL_could 283 = .ok (.invokestatic 111, 3) := by decide +kernel
theorem dL_could_286 : decode cL_could 286 = .ok (.ifCond .lt 9, 3) := by decide +kernel
theorem dL_could_289 : decode cL_could 289 = .ok (.iinc 9 1, 3) := by decide +kernel
theorem dL_could_292 : decode cL_could 292 = .ok (.goto (-30), 3) := by decide +kernel
theorem dL_could_295 : decode cL_could 295 = .ok (.aload_n 0, 1) := by decide +kernel
theorem dL_could_296 : decode cL_could 296 = .ok (.iload_n 1, 1) := by decide +kernel
theorem dL_could_297 : decode cL_could 297 = .ok (.invokevirtual 115, 3) := by decide +kernel
theorem dL_could_300 : decode cL_could 300 = .ok (.iload 9, 2) := by decide +kernel
theorem dL_could_302 : decode cL_could 302 = .ok (.if_icmp .ne 7, 3) := by decide +kernel
theorem dL_could_305 : decode cL_could 305 = .ok (.iconst 1, 1) := by decide +kernel
theorem dL_could_306 : decode cL_could 306 = .ok (.goto 4, 3) := by decide +kernel
theorem dL_could_309 : decode cL_could 309 = .ok (.iconst 0, 1) := by decide +kernel
theorem dL_could_310 : decode cL_could 310 = .ok (.ireturn, 1) := by decide +kernel
theorem dL_law_0 : decode cL_law 0 = .ok (.new 11, 3) := by decide +kernel
theorem dL_law_3 : decode cL_law 3 = .ok (.dup, 1) := by decide +kernel
theorem dL_law_4 : decode cL_law 4 = .ok (.invokespecial 118, 3) := by decide +kernel
theorem dL_law_7 : decode cL_law 7 = .ok (.astore_n 1, 1) := by decide +kernel
theorem dL_law_8 : decode cL_law 8 = .ok (.bipush 7, 2) := by decide +kernel
theorem dL_law_10 : decode cL_law 10 = .ok (.newarray .int, 2) := by decide +kernel
theorem dL_law_12 : decode cL_law 12 = .ok (.astore_n 2, 1) := by decide +kernel
theorem dL_law_13 : decode cL_law 13 = .ok (.bipush 32, 2) := by decide +kernel
theorem dL_law_15 : decode cL_law 15 = .ok (.newarray .long, 2) := by decide +kernel
theorem dL_law_17 : decode cL_law 17 = .ok (.astore_n 3, 1) := by decide +kernel
theorem dL_law_18 : decode cL_law 18 = .ok (.bipush 32, 2) := by decide +kernel
theorem dL_law_20 : decode cL_law 20 = .ok (.newarray .int, 2) := by decide +kernel
theorem dL_law_22 : decode cL_law 22 = .ok (.astore 4, 2) := by decide +kernel
theorem dL_law_24 : decode cL_law 24 = .ok (.bipush 7, 2) := by decide +kernel
theorem dL_law_26 : decode cL_law 26 = .ok (.newarray .int, 2) := by decide +kernel
theorem dL_law_28 : decode cL_law 28 = .ok (.astore 5, 2) := by decide +kernel
theorem dL_law_30 : decode cL_law 30 = .ok (.bipush 32, 2) := by decide +kernel
theorem dL_law_32 : decode cL_law 32 = .ok (.newarray .long, 2) := by decide +kernel
theorem dL_law_34 : decode cL_law 34 = .ok (.astore 6, 2) := by decide +kernel
theorem dL_law_36 : decode cL_law 36 = .ok (.bipush 32, 2) := by decide +kernel
theorem dL_law_38 : decode cL_law 38 = .ok (.newarray .int, 2) := by decide +kernel
theorem dL_law_40 : decode cL_law 40 = .ok (.astore 7, 2) := by decide +kernel
theorem dL_law_42 : decode cL_law 42 = .ok (.aload_n 2, 1) := by decide +kernel
theorem dL_law_43 : decode cL_law 43 = .ok (.iconst 0, 1) := by decide +kernel
theorem dL_law_44 : decode cL_law 44 = .ok (.iconst 1, 1) := by decide +kernel
theorem dL_law_45 : decode cL_law 45 = .ok (.iastore, 1) := by decide +kernel
theorem dL_law_46 : decode cL_law 46 = .ok (.iconst 0, 1) := by decide +kernel
theorem dL_law_47 : decode cL_law 47 = .ok (.istore 8, 2) := by decide +kernel
theorem dL_law_49 : decode cL_law 49 = .ok (.iload 8, 2) := by decide +kernel
theorem dL_law_51 : decode cL_law 51 = .ok (.bipush 20, 2) := by decide +kernel
theorem dL_law_53 : decode cL_law 53 = .ok (.if_icmp .ge 811, 3) := by decide +kernel
theorem dL_law_56 : decode cL_law 56 = .ok (.aload_n 0, 1) := by decide +kernel
theorem dL_law_57 : decode cL_law 57 = .ok (.iload 8, 2) := by decide +kernel
theorem dL_law_59 : decode cL_law 59 = .ok (.invokestatic 119, 3) := by decide +kernel
theorem dL_law_62 : decode cL_law 62 = .ok (.istore 9, 2) := by decide +kernel
theorem dL_law_64 : decode cL_law 64 = .ok (.iload 9, 2) := by decide +kernel
theorem dL_law_66 : decode cL_law 66 = .ok (.bipush 8, 2) := by decide +kernel
theorem dL_law_68 : decode cL_law 68 = .ok (.invokestatic 123, 3) := by decide +kernel
theorem dL_law_71 : decode cL_law 71 = .ok (.istore 10, 2) := by decide +kernel
theorem dL_law_73 : decode cL_law 73 = .ok (.iload 9, 2) := by decide +kernel
theorem dL_law_75 : decode cL_law 75 = .ok (.iconst 3, 1) := by decide +kernel
theorem dL_law_76 : decode cL_law 76 = .ok (.ishr, 1) := by decide +kernel
theorem dL_law_77 : decode cL_law 77 = .ok (.iconst 4, 1) := by decide +kernel
theorem dL_law_78 : decode cL_law 78 = .ok (.invokestatic 123, 3) := by decide +kernel
theorem dL_law_81 : decode cL_law 81 = .ok (.istore 11, 2) := by decide +kernel
theorem dL_law_83 : decode cL_law 83 = .ok (.iconst 4, 1) := by decide +kernel
theorem dL_law_84 : decode cL_law 84 = .ok (.iload 11, 2) := by decide +kernel
theorem dL_law_86 : decode cL_law 86 = .ok (.imul, 1) := by decide +kernel
theorem dL_law_87 : decode cL_law 87 = .ok (.iload 9, 2) := by decide +kernel
theorem dL_law_89 : decode cL_law 89 = .ok (.iconst 5, 1) := by decide +kernel
theorem dL_law_90 : decode cL_law 90 = .ok (.ishr, 1) := by decide +kernel
theorem dL_law_91 : decode cL_law 91 = .ok (.iconst 4, 1) := by decide +kernel
theorem dL_law_92 : decode cL_law 92 = .ok (.invokestatic 123, 3) := by decide +kernel
theorem dL_law_95 : decode cL_law 95 = .ok (.iadd, 1) := by decide +kernel
theorem dL_law_96 : decode cL_law 96 = .ok (.istore 12, 2) := by decide +kernel
theorem dL_law_98 : decode cL_law 98 = .ok (.aload_n 2, 1) := by decide +kernel
theorem dL_law_99 : decode cL_law 99 = .ok (.iconst 0, 1) := by decide +kernel
theorem dL_law_100 : decode cL_law 100 = .ok (.iaload, 1) := by decide +kernel
theorem dL_law_101 : decode cL_law 101 = .ok (.iload 11, 2) := by decide +kernel
theorem dL_law_103 : decode cL_law 103 = .ok (.ishr, 1) := by decide +kernel
theorem dL_law_104 : decode cL_law 104 = .ok (.iconst 1, 1) := by decide +kernel
theorem dL_law_105 : decode cL_law 105 = .ok (.iand, 1) := by decide +kernel
theorem dL_law_106 : decode cL_law 106 = .ok (.iconst 1, 1) := by decide +kernel
theorem dL_law_107 : decode cL_law 107 = .ok (.if_icmp .ne 7, 3) := by decide +kernel
theorem dL_law_110 : decode cL_law 110 = .ok (.iconst 1, 1) := by decide +kernel
theorem dL_law_111 : decode cL_law 111 = .ok (.goto 4, 3) := by decide +kernel
theorem dL_law_114 : decode cL_law 114 = .ok (.iconst 0, 1) := by decide +kernel
theorem dL_law_115 : decode cL_law 115 = .ok (.istore 13, 2) := by decide +kernel
theorem dL_law_117 : decode cL_law 117 = .ok (.iload 10, 2) := by decide +kernel
theorem dL_law_119 : decode cL_law 119 = .ok (.iconst 3, 1) := by decide +kernel
theorem dL_law_120 : decode cL_law 120 = .ok (.if_icmp .ge 111, 3) := by decide +kernel
theorem dL_law_123 : decode cL_law 123 = .ok (.iconst 0, 1) := by decide +kernel
theorem dL_law_124 : decode cL_law 124 = .ok (.istore 14, 2) := by decide +kernel
theorem dL_law_126 : decode cL_law 126 = .ok (.iload 14, 2) := by decide +kernel
theorem dL_law_128 : decode cL_law 128 = .ok (.iconst 4, 1) := by decide +kernel
theorem dL_law_129 : decode cL_law 129 = .ok (.if_icmp .ge 99, 3) := by decide +kernel
theorem dL_law_132 : decode cL_law 132 = .ok (.iload 9, 2) := by decide +kernel
theorem dL_law_134 : decode cL_law 134 = .ok (.bipush 7, 2) := by decide +kernel
theorem dL_law_136 : decode cL_law 136 = .ok (.iload 14, 2) := by decide +kernel
theorem dL_law_138 : decode cL_law 138 = .ok (.iadd, 1) := by decide +kernel
theorem dL_law_139 : decode cL_law 139 = .ok (.ishr, 1) := by decide +kernel
theorem dL_law_140 : decode cL_law 140 = .ok (.bipush 16, 2) := by decide +kernel
theorem dL_law_142 : decode cL_law 142 = .ok (.invokestatic 123, 3) := by decide +kernel
theorem dL_law_145 : decode cL_law 145 = .ok (.istore 15, 2) := by decide +kernel
theorem dL_law_147 : decode cL_law 147 = .ok (.iload 9, 2) := by decide +kernel
theorem dL_law_149 : decode cL_law 149 = .ok (.bipush 11, 2) := by decide +kernel
theorem dL_law_151 : decode cL_law 151 = .ok (.iload 14, 2) := by decide +kernel
theorem dL_law_153 : decode cL_law 153 = .ok (.iadd, 1) := by decide +kernel
theorem dL_law_154 : decode cL_law 154 = .ok (.ishr, 1) := by decide +kernel
theorem dL_law_155 : decode cL_law 155 = .ok (.iconst 3, 1) := by decide +kernel
theorem dL_law_156 : decode cL_law 156 = .ok (.invokestatic 123, 3) := by decide +kernel
theorem dL_law_159 : decode cL_law 159 = .ok (.ifCond .ne 7, 3) := by decide +kernel
theorem dL_law_162 : decode cL_law 162 = .ok (.iconst 0, 1) := by decide +kernel
theorem dL_law_163 : decode cL_law 163 = .ok (.goto 16, 3) := by decide +kernel
theorem dL_law_166 : decode cL_law 166 = .ok (.iload 9, 2) := by decide +kernel
theorem dL_law_168 : decode cL_law 168 = .ok (.bipush 9, 2) := by decide +kernel
theorem dL_law_170 : decode cL_law 170 = .ok (.iload 14, 2) := by decide +kernel
theorem dL_law_172 : decode cL_law 172 = .ok (.iadd, 1) := by decide +kernel
theorem dL_law_173 : decode cL_law 173 = .ok (.ishr, 1) := by decide +kernel
theorem dL_law_174 : decode cL_law 174 = .ok (.bipush 100, 2) := by decide +kernel
theorem dL_law_176 : decode cL_law 176 = .ok (.invokestatic 123, 3) := by decide +kernel
theorem dL_law_179 : decode cL_law 179 = .ok (.istore 16, 2) := by decide +kernel
theorem dL_law_181 : decode cL_law 181 = .ok (.aload_n 1, 1) := by decide +kernel
theorem dL_law_182 : decode cL_law 182 = .ok (.iload 11, 2) := by decide +kernel
theorem dL_law_184 : decode cL_law 184 = .ok (.iload 15, 2) := by decide +kernel
theorem dL_law_186 : decode cL_law 186 = .ok (.iload 16, 2) := by decide +kernel
theorem dL_law_188 : decode cL_law 188 = .ok (.invokestatic 126, 3) := by decide +kernel
theorem dL_law_191 : decode cL_law 191 = .ok (.iload 13, 2) := by decide +kernel
theorem dL_law_193 : decode cL_law 193 = .ok (.ifCond .eq 23, 3) := by decide +kernel
theorem dL_law_196 : decode cL_law 196 = .ok (.bipush 16, 2) := by decide +kernel
theorem dL_law_198 : decode cL_law 198 = .ok (.iload 11, 2) := by decide +kernel
theorem dL_law_200 : decode cL_law 200 = .ok (.imul, 1) := by decide +kernel
theorem dL_law_201 : decode cL_law 201 = .ok (.iload 15, 2) := by decide +kernel
theorem dL_law_203 : decode cL_law 203 = .ok (.iadd, 1) := by decide +kernel
theorem dL_law_204 : decode cL_law 204 = .ok (.iload 16, 2) := by decide +kernel
theorem dL_law_206 : decode cL_law 206 = .ok (.aload_n 2, 1) := by decide +kernel
theorem dL_law_207 : decode cL_law 207 = .ok (.aload_n 3, 1) := by decide +kernel
theorem dL_law_208 : decode cL_law 208 = .ok (.aload 4, 2) := by decide +kernel
theorem dL_law_210 : decode cL_law 210 = .ok (.invokestatic 111, 3) := by decide +kernel
theorem dL_law_213 : decode cL_law 213 = .ok (.goto 4, 3) := by decide +kernel
theorem dL_law_216 : decode cL_law 216 = .ok (.iconst (-1), 1) := by decide +kernel
theorem dL_law_217 : decode cL_law 217 = .ok (.if_icmp .eq 5, 3) := by decide +kernel
theorem dL_law_220 : decode cL_law 220 = .ok (.iconst 0, 1) := by decide +kernel
theorem dL_law_221 : decode cL_law 221 = .ok (.ireturn, 1) := by decide +kernel
theorem dL_law_222 : decode cL_law 222 = .ok (.iinc 14 1, 3) := by decide +kernel
theorem dL_law_225 : decode cL_law 225 = .ok (.goto (-99), 3) := by decide +kernel
theorem dL_law_228 : decode cL_law 228 = .ok (.goto 576, 3) := by decide +kernel
theorem dL_law_231 : decode cL_law 231 = .ok (.iload 10, 2) := by decide +kernel
theorem dL_law_233 : decode cL_law 233 = .ok (.iconst 3, 1) := by decide +kernel
theorem dL_law_234 : decode cL_law 234 = .ok (.if_icmp .ne 152, 3) := by decide +kernel
theorem dL_law_237 : decode cL_law 237 = .ok (.iconst 0, 1) := by decide +kernel
theorem dL_law_238 : decode cL_law 238 = .ok (.istore 14, 2) := by decide +kernel
theorem dL_law_240 : decode cL_law 240 = .ok (.iload 14, 2) := by decide +kernel
theorem dL_law_242 : decode cL_law 242 = .ok (.iconst 4, 1) := by decide +kernel
theorem dL_law_243 : decode cL_law 243 = .ok (.if_icmp .ge 21, 3) := by decide +kernel
theorem dL_law_246 : decode cL_law 246 = .ok (.aload_n 2, 1) := by decide +kernel
theorem dL_law_247 : decode cL_law 247 = .ok (.iconst 0, 1) := by decide +kernel
theorem dL_law_248 : decode cL_law 248 = .ok (.iaload, 1) := by decide +kernel
theorem dL_law_249 : decode cL_law 249 = .ok (.iload 14, 2) := by decide +kernel
theorem dL_law_251 : decode cL_law 251 = .ok (.ishr, 1) := by decide +kernel
theorem dL_law_252 : decode cL_law 252 = .ok (.iconst 1, 1) := by decide +kernel
theorem dL_law_253 : decode cL_law 253 = .ok (.iand, 1) := by decide +kernel
theorem dL_law_254 : decode cL_law 254 = .ok (.iconst 1, 1) := by decide +kernel
theorem dL_law_255 : decode cL_law 255 = .ok (.if_icmp .ne 9, 3) := by decide +kernel
theorem dL_law_258 : decode cL_law 258 = .ok (.iinc 14 1, 3) := by decide +kernel
theorem dL_law_261 : decode cL_law 261 = .ok (.goto (-21), 3) := by decide +kernel
theorem dL_law_264 : decode cL_law 264 = .ok (.aload_n 1, 1) := by decide +kernel
theorem dL_law_265 : decode cL_law 265 = .ok (.iload 11, 2) := by decide +kernel
theorem dL_law_267 : decode cL_law 267 = .ok (.invokestatic 129, 3) := by decide +kernel
theorem dL_law_270 : decode cL_law 270 = .ok (.iload 13, 2) := by decide +kernel
theorem dL_law_272 : decode cL_law 272 = .ok (.ifCond .ne 7, 3) := by decide +kernel
theorem dL_law_275 : decode cL_law 275 = .ok (.iconst (-1), 1) := by decide +kernel
theorem dL_law_276 : decode cL_law 276 = .ok (.goto 16, 3) := by decide +kernel
theorem dL_law_279 : decode cL_law 279 = .ok (.iload 14, 2) := by decide +kernel
theorem dL_law_281 : decode cL_law 281 = .ok (.iconst 4, 1) := by decide +kernel
theorem dL_law_282 : decode cL_law 282 = .ok (.if_icmp .ne 8, 3) := by decide +kernel
theorem dL_law_285 : decode cL_law 285 = .ok (.bipush (-2), 2) := by decide +kernel
theorem dL_law_287 : decode cL_law 287 = .ok (.goto 5, 3) := by decide +kernel
theorem dL_law_290 : decode cL_law 290 = .ok (.iload 14, 2) := by decide +kernel
theorem dL_law_292 : decode cL_law 292 = .ok (.if_icmp .eq 5, 3) := by decide +kernel
theorem dL_law_295 : decode cL_law 295 = .ok (.iconst 0, 1) := by decide +kernel
theorem dL_law_296 : decode cL_law 296 = .ok (.ireturn, 1) := by decide +kernel
theorem dL_law_297 : decode cL_law 297 = .ok (.iload 13, 2) := by decide +kernel
theorem dL_law_299 : decode cL_law 299 = .ok (.ifCond .eq 84, 3) := by decide +kernel
theorem dL_law_302 : decode cL_law 302 = .ok (.iload 14, 2) := by decide +kernel
theorem dL_law_304 : decode cL_law 304 = .ok (.iconst 4, 1) := by decide +kernel
theorem dL_law_305 : decode cL_law 305 = .ok (.if_icmp .ge 78, 3) := by decide +kernel
theorem dL_law_308 : decode cL_law 308 = .ok (.aload_n 2, 1) := by decide +kernel
theorem dL_law_309 : decode cL_law 309 = .ok (.iconst 0, 1) := by decide +kernel
theorem dL_law_310 : decode cL_law 310 = .ok (.dup2, 1) := by decide +kernel
theorem dL_law_311 : decode cL_law 311 = .ok (.iaload, 1) := by decide +kernel
theorem dL_law_312 : decode cL_law 312 = .ok (.iconst 1, 1) := by decide +kernel
theorem dL_law_313 : decode cL_law 313 = .ok (.iload 14, 2) := by decide +kernel
theorem dL_law_315 : decode cL_law 315 = .ok (.ishl, 1) := by decide +kernel
theorem dL_law_316 : decode cL_law 316 = .ok (.ior, 1) := by decide +kernel
theorem dL_law_317 : decode cL_law 317 = .ok (.iastore, 1) := by decide +kernel
theorem dL_law_318 : decode cL_law 318 = .ok (.aload_n 2, 1) := by decide +kernel
theorem dL_law_319 : decode cL_law 319 = .ok (.iconst 1, 1) := by decide +kernel
theorem dL_law_320 : decode cL_law 320 = .ok (.dup2, 1) := by decide +kernel
theorem dL_law_321 : decode cL_law 321 = .ok (.iaload, 1) := by decide +kernel
theorem dL_law_322 : decode cL_law 322 = .ok (.aload_n 2, 1) := by decide +kernel
theorem dL_law_323 : decode cL_law 323 = .ok (.iconst 1, 1) := by decide +kernel
theorem dL_law_324 : decode cL_law 324 = .ok (.iaload, 1) := by decide +kernel
theorem dL_law_325 : decode cL_law 325 = .ok (.iconst 4, 1) := by decide +kernel
theorem dL_law_326 : decode cL_law 326 = .ok (.iload 11, 2) := by decide +kernel
theorem dL_law_328 : decode cL_law 328 = .ok (.imul, 1) := by decide +kernel
theorem dL_law_329 : decode cL_law 329 = .ok (.ishr, 1) := by decide +kernel
theorem dL_law_330 : decode cL_law 330 = .ok (.bipush 15, 2) := by decide +kernel
theorem dL_law_332 : decode cL_law 332 = .ok (.iand, 1) := by decide +kernel
theorem dL_law_333 : decode cL_law 333 = .ok (.iconst 4, 1) := by decide +kernel
theorem dL_law_334 : decode cL_law 334 = .ok (.iload 14, 2) := by decide +kernel
theorem dL_law_336 : decode cL_law 336 = .ok (.imul, 1) := by decide +kernel
theorem dL_law_337 : decode cL_law 337 = .ok (.ishl, 1) := by decide +kernel
theorem dL_law_338 : decode cL_law 338 = .ok (.ior, 1) := by decide +kernel
theorem dL_law_339 : decode cL_law 339 = .ok (.iastore, 1) := by decide +kernel
theorem dL_law_340 : decode cL_law 340 = .ok (.iconst 0, 1) := by decide +kernel
theorem dL_law_341 : decode cL_law 341 = .ok (.istore 15, 2) := by decide +kernel
theorem dL_law_343 : decode cL_law 343 = .ok (.iload 15, 2) := by decide +kernel
theorem dL_law_345 : decode cL_law 345 = .ok (.bipush 32, 2) := by decide +kernel
theorem dL_law_347 : decode cL_law 347 = .ok (.if_icmp .ge 36, 3) := by decide +kernel
theorem dL_law_350 : decode cL_law 350 = .ok (.aload_n 3, 1) := by decide +kernel
theorem dL_law_351 : decode cL_law 351 = .ok (.iload 15, 2) := by decide +kernel
theorem dL_law_353 : decode cL_law 353 = .ok (.dup2, 1) := by decide +kernel
theorem dL_law_354 : decode cL_law 354 = .ok (.laload, 1) := by decide +kernel
theorem dL_law_355 : decode cL_law 355 = .ok (.aload_n 3, 1) := by decide +kernel
theorem dL_law_356 : decode cL_law 356 = .ok (.iload 15, 2) := by decide +kernel
theorem dL_law_358 : decode cL_law 358 = .ok (.laload, 1) := by decide +kernel
theorem dL_law_359 : decode cL_law 359 = .ok (.bipush 16, 2) := by decide +kernel
theorem dL_law_361 : decode cL_law 361 = .ok (.iload 11, 2) := by decide +kernel
theorem dL_law_363 : decode cL_law 363 = .ok (.imul, 1) := by decide +kernel
theorem dL_law_364 : decode cL_law 364 = .ok (.lshr, 1) := by decide +kernel
theorem dL_law_365 : decode cL_law 365 = .ok (.ldc2_w 132, 3) := by decide +kernel
theorem dL_law_368 : decode cL_law 368 = .ok (.land, 1) := by decide +kernel
theorem dL_law_369 : decode cL_law 369 = .ok (.bipush 16, 2) := by decide +kernel
theorem dL_law_371 : decode cL_law 371 = .ok (.iload 14, 2) := by decide +kernel
theorem dL_law_373 : decode cL_law 373 = .ok (.imul, 1) := by decide +kernel
theorem dL_law_374 : decode cL_law 374 = .ok (.lshl, 1) := by decide +kernel
theorem dL_law_375 : decode cL_law 375 = .ok (.lor, 1) := by decide +kernel
theorem dL_law_376 : decode cL_law 376 = .ok (.lastore, 1) := by decide +kernel
theorem dL_law_377 : decode cL_law 377 = .ok (.iinc 15 1, 3) := by decide +kernel
theorem dL_law_380 : decode cL_law 380 = .ok (.goto (-37), 3) := by decide +kernel
theorem dL_law_383 : decode cL_law 383 = .ok (.goto 421, 3) := by decide +kernel
theorem dL_law_386 : decode cL_law 386 = .ok (.iload 10, 2) := by decide +kernel
theorem dL_law_388 : decode cL_law 388 = .ok (.iconst 4, 1) := by decide +kernel
theorem dL_law_389 : decode cL_law 389 = .ok (.if_icmp .ne 139, 3) := by decide +kernel
theorem dL_law_392 : decode cL_law 392 = .ok (.aload_n 2, 1) := by decide +kernel
theorem dL_law_393 : decode cL_law 393 = .ok (.iconst 0, 1) := by decide +kernel
theorem dL_law_394 : decode cL_law 394 = .ok (.iaload, 1) := by decide +kernel
theorem dL_law_395 : decode cL_law 395 = .ok (.iconst 1, 1) := by decide +kernel
theorem dL_law_396 : decode cL_law 396 = .ok (.iload 11, 2) := by decide +kernel
theorem dL_law_398 : decode cL_law 398 = .ok (.ishl, 1) := by decide +kernel
theorem dL_law_399 : decode cL_law 399 = .ok (.if_icmp .ne 7, 3) := by decide +kernel
theorem dL_law_402 : decode cL_law 402 = .ok (.iconst 1, 1) := by decide +kernel
theorem dL_law_403 : decode cL_law 403 = .ok (.goto 4, 3) := by decide +kernel
theorem dL_law_406 : decode cL_law 406 = .ok (.iconst 0, 1) := by decide +kernel
theorem dL_law_407 : decode cL_law 407 = .ok (.istore 14, 2) := by decide +kernel
theorem dL_law_409 : decode cL_law 409 = .ok (.aload_n 3, 1) := by decide +kernel
theorem dL_law_410 : decode cL_law 410 = .ok (.invokestatic 72, 3) := by decide +kernel
theorem dL_law_413 : decode cL_law 413 = .ok (.istore 15, 2) := by decide +kernel
theorem dL_law_415 : decode cL_law 415 = .ok (.iload 13, 2) := by decide +kernel
theorem dL_law_417 : decode cL_law 417 = .ok (.ifCond .eq 71, 3) := by decide +kernel
theorem dL_law_420 : decode cL_law 420 = .ok (.iload 14, 2) := by decide +kernel
theorem dL_law_422 : decode cL_law 422 = .ok (.ifCond .ne 66, 3) := by decide +kernel
theorem dL_law_425 : decode cL_law 425 = .ok (.aload_n 2, 1) := by decide +kernel
theorem dL_law_426 : decode cL_law 426 = .ok (.iconst 0, 1) := by decide +kernel
theorem dL_law_427 : decode cL_law 427 = .ok (.dup2, 1) := by decide +kernel
theorem dL_law_428 : decode cL_law 428 = .ok (.iaload, 1) := by decide +kernel
theorem dL_law_429 : decode cL_law 429 = .ok (.iconst 1, 1) := by decide +kernel
theorem dL_law_430 : decode cL_law 430 = .ok (.iload 11, 2) := by decide +kernel
theorem dL_law_432 : decode cL_law 432 = .ok (.ishl, 1) := by decide +kernel
theorem dL_law_433 : decode cL_law 433 = .ok (.iconst (-1), 1) := by decide +kernel
theorem dL_law_434 : decode cL_law 434 = .ok (.ixor, 1) := by decide +kernel
theorem dL_law_435 : decode cL_law 435 = .ok (.iand, 1) := by decide +kernel
theorem dL_law_436 : decode cL_law 436 = .ok (.iastore, 1) := by decide +kernel
theorem dL_law_437 : decode cL_law 437 = .ok (.aload_n 2, 1) := by decide +kernel
theorem dL_law_438 : decode cL_law 438 = .ok (.iconst 1, 1) := by decide +kernel
theorem dL_law_439 : decode cL_law 439 = .ok (.dup2, 1) := by decide +kernel
theorem dL_law_440 : decode cL_law 440 = .ok (.iaload, 1) := by decide +kernel
theorem dL_law_441 : decode cL_law 441 = .ok (.bipush 15, 2) := by decide +kernel
theorem dL_law_443 : decode cL_law 443 = .ok (.iconst 4, 1) := by decide +kernel
theorem dL_law_444 : decode cL_law 444 = .ok (.iload 11, 2) := by decide +kernel
theorem dL_law_446 : decode cL_law 446 = .ok (.imul, 1) := by decide +kernel
theorem dL_law_447 : decode cL_law 447 = .ok (.ishl, 1) := by decide +kernel
theorem dL_law_448 : decode cL_law 448 = .ok (.iconst (-1), 1) := by decide +kernel
theorem dL_law_449 : decode cL_law 449 = .ok (.ixor, 1) := by decide +kernel
theorem dL_law_450 : decode cL_law 450 = .ok (.iand, 1) := by decide +kernel
theorem dL_law_451 : decode cL_law 451 = .ok (.iastore, 1) := by decide +kernel
theorem dL_law_452 : decode cL_law 452 = .ok (.iconst 0, 1) := by decide +kernel
theorem dL_law_453 : decode cL_law 453 = .ok (.istore 16, 2) := by decide +kernel
theorem dL_law_455 : decode cL_law 455 = .ok (.iload 16, 2) := by decide +kernel
theorem dL_law_457 : decode cL_law 457 = .ok (.bipush 32, 2) := by decide +kernel
theorem dL_law_459 : decode cL_law 459 = .ok (.if_icmp .ge 29, 3) := by decide +kernel
theorem dL_law_462 : decode cL_law 462 = .ok (.aload_n 3, 1) := by decide +kernel
theorem dL_law_463 : decode cL_law 463 = .ok (.iload 16, 2) := by decide +kernel
theorem dL_law_465 : decode cL_law 465 = .ok (.dup2, 1) := by decide +kernel
theorem dL_law_466 : decode cL_law 466 = .ok (.laload, 1) := by decide +kernel
theorem dL_law_467 : decode cL_law 467 = .ok (.ldc2_w 132, 3) := by decide +kernel
theorem dL_law_470 : decode cL_law 470 = .ok (.bipush 16, 2) := by decide +kernel
theorem dL_law_472 : decode cL_law 472 = .ok (.iload 11, 2) := by decide +kernel
theorem dL_law_474 : decode cL_law 474 = .ok (.imul, 1) := by decide +kernel
theorem dL_law_475 : decode cL_law 475 = .ok (.lshl, 1) := by decide +kernel
theorem dL_law_476 : decode cL_law 476 = .ok (.ldc2_w 64, 3) := by decide +kernel
theorem dL_law_479 : decode cL_law 479 = .ok (.lxor, 1) := by decide +kernel
theorem dL_law_480 : decode cL_law 480 = .ok (.land, 1) := by decide +kernel
theorem dL_law_481 : decode cL_law 481 = .ok (.lastore, 1) := by decide +kernel
theorem dL_law_482 : decode cL_law 482 = .ok (.iinc 16 1, 3) := by decide +kernel
theorem dL_law_485 : decode cL_law 485 = .ok (.goto (-30), 3) := by decide +kernel
theorem dL_law_488 : decode cL_law 488 = .ok (.aload_n 1, 1) := by decide +kernel
theorem dL_law_489 : decode cL_law 489 = .ok (.iload 11, 2) := by decide +kernel
theorem dL_law_491 : decode cL_law 491 = .ok (.invokestatic 134, 3) := by decide +kernel
theorem dL_law_494 : decode cL_law 494 = .ok (.iload 13, 2) := by decide +kernel
theorem dL_law_496 : decode cL_law 496 = .ok (.ifCond .ne 7, 3) := by decide +kernel
theorem dL_law_499 : decode cL_law 499 = .ok (.iconst (-1), 1) := by decide +kernel
theorem dL_law_500 : decode cL_law 500 = .ok (.goto 20, 3) := by decide +kernel
theorem dL_law_503 : decode cL_law 503 = .ok (.iload 14, 2) := by decide +kernel
theorem dL_law_505 : decode cL_law 505 = .ok (.ifCond .eq 8, 3) := by decide +kernel
theorem dL_law_508 : decode cL_law 508 = .ok (.bipush (-2), 2) := by decide +kernel
theorem dL_law_510 : decode cL_law 510 = .ok (.goto 10, 3) := by decide +kernel
theorem dL_law_513 : decode cL_law 513 = .ok (.aload_n 3, 1) := by decide +kernel
theorem dL_law_514 : decode cL_law 514 = .ok (.invokestatic 72, 3) := by decide +kernel
theorem dL_law_517 : decode cL_law 517 = .ok (.iload 15, 2) := by decide +kernel
theorem dL_law_519 : decode cL_law 519 = .ok (.isub, 1) := by decide +kernel
theorem dL_law_520 : decode cL_law 520 = .ok (.if_icmp .eq 5, 3) := by decide +kernel
theorem dL_law_523 : decode cL_law 523 = .ok (.iconst 0, 1) := by decide +kernel
theorem dL_law_524 : decode cL_law 524 = .ok (.ireturn, 1) := by decide +kernel
theorem dL_law_525 : decode cL_law 525 = .ok (.goto 279, 3) := by decide +kernel
theorem dL_law_528 : decode cL_law 528 = .ok (.iload 10, 2) := by decide +kernel
theorem dL_law_530 : decode cL_law 530 = .ok (.iconst 5, 1) := by decide +kernel
theorem dL_law_531 : decode cL_law 531 = .ok (.if_icmp .ne 146, 3) := by decide +kernel
theorem dL_law_534 : decode cL_law 534 = .ok (.iload 9, 2) := by decide +kernel
theorem dL_law_536 : decode cL_law 536 = .ok (.bipush 7, 2) := by decide +kernel
theorem dL_law_538 : decode cL_law 538 = .ok (.ishr, 1) := by decide +kernel
theorem dL_law_539 : decode cL_law 539 = .ok (.iconst 2, 1) := by decide +kernel
theorem dL_law_540 : decode cL_law 540 = .ok (.invokestatic 123, 3) := by decide +kernel
theorem dL_law_543 : decode cL_law 543 = .ok (.ifCond .ne 36, 3) := by decide +kernel
theorem dL_law_546 : decode cL_law 546 = .ok (.aload_n 1, 1) := by decide +kernel
theorem dL_law_547 : decode cL_law 547 = .ok (.iload 11, 2) := by decide +kernel
theorem dL_law_549 : decode cL_law 549 = .ok (.iload 12, 2) := by decide +kernel
theorem dL_law_551 : decode cL_law 551 = .ok (.iconst 4, 1) := by decide +kernel
theorem dL_law_552 : decode cL_law 552 = .ok (.irem, 1) := by decide +kernel
theorem dL_law_553 : decode cL_law 553 = .ok (.invokestatic 136, 3) := by decide +kernel
theorem dL_law_556 : decode cL_law 556 = .ok (.iload 13, 2) := by decide +kernel
theorem dL_law_558 : decode cL_law 558 = .ok (.ifCond .eq 15, 3) := by decide +kernel
theorem dL_law_561 : decode cL_law 561 = .ok (.iload 12, 2) := by decide +kernel
theorem dL_law_563 : decode cL_law 563 = .ok (.aload_n 2, 1) := by decide +kernel
theorem dL_law_564 : decode cL_law 564 = .ok (.aload_n 3, 1) := by decide +kernel
theorem dL_law_565 : decode cL_law 565 = .ok (.aload 4, 2) := by decide +kernel
theorem dL_law_567 : decode cL_law 567 = .ok (.invokestatic 97, 3) := by decide +kernel
theorem dL_law_570 : decode cL_law 570 = .ok (.goto 4, 3) := by decide +kernel
theorem dL_law_573 : decode cL_law 573 = .ok (.iconst (-1), 1) := by decide +kernel
theorem dL_law_574 : decode cL_law 574 = .ok (.if_icmp .eq 230, 3) := by decide +kernel
theorem dL_law_577 : decode cL_law 577 = .ok (.iconst 0, 1) := by decide +kernel
theorem dL_law_578 : decode cL_law 578 = .ok (.ireturn, 1) := by decide +kernel
theorem dL_law_579 : decode cL_law 579 = .ok (.aload_n 2, 1) := by decide +kernel
theorem dL_law_580 : decode cL_law 580 = .ok (.iconst 1, 1) := by decide +kernel
theorem dL_law_581 : decode cL_law 581 = .ok (.iaload, 1) := by decide +kernel
theorem dL_law_582 : decode cL_law 582 = .ok (.iload 12, 2) := by decide +kernel
theorem dL_law_584 : decode cL_law 584 = .ok (.ishr, 1) := by decide +kernel
theorem dL_law_585 : decode cL_law 585 = .ok (.iconst 1, 1) := by decide +kernel
theorem dL_law_586 : decode cL_law 586 = .ok (.iand, 1) := by decide +kernel
theorem dL_law_587 : decode cL_law 587 = .ok (.iconst 1, 1) := by decide +kernel
theorem dL_law_588 : decode cL_law 588 = .ok (.if_icmp .ne 7, 3) := by decide +kernel
theorem dL_law_591 : decode cL_law 591 = .ok (.iconst 1, 1) := by decide +kernel
theorem dL_law_592 : decode cL_law 592 = .ok (.goto 4, 3) := by decide +kernel
theorem dL_law_595 : decode cL_law 595 = .ok (.iconst 0, 1) := by decide +kernel
theorem dL_law_596 : decode cL_law 596 = .ok (.istore 14, 2) := by decide +kernel
theorem dL_law_598 : decode cL_law 598 = .ok (.iload 14, 2) := by decide +kernel
theorem dL_law_600 : decode cL_law 600 = .ok (.ifCond .eq 16, 3) := by decide +kernel
theorem dL_law_603 : decode cL_law 603 = .ok (.iconst 4, 1) := by decide +kernel
theorem dL_law_604 : decode cL_law 604 = .ok (.iload 12, 2) := by decide +kernel
theorem dL_law_606 : decode cL_law 606 = .ok (.imul, 1) := by decide +kernel
theorem dL_law_607 : decode cL_law 607 = .ok (.aload_n 3, 1) := by decide +kernel
theorem dL_law_608 : decode cL_law 608 = .ok (.invokestatic 46, 3) := by decide +kernel
theorem dL_law_611 : decode cL_law 611 = .ok (.iconst 4, 1) := by decide +kernel
theorem dL_law_612 : decode cL_law 612 = .ok (.idiv, 1) := by decide +kernel
theorem dL_law_613 : decode cL_law 613 = .ok (.goto 5, 3) := by decide +kernel
theorem dL_law_616 : decode cL_law 616 = .ok (.bipush (-2), 2) := by decide +kernel
theorem dL_law_618 : decode cL_law 618 = .ok (.istore 15, 2) := by decide +kernel
theorem dL_law_620 : decode cL_law 620 = .ok (.aload_n 1, 1) := by decide +kernel
theorem dL_law_621 : decode cL_law 621 = .ok (.iload 11, 2) := by decide +kernel
theorem dL_law_623 : decode cL_law 623 = .ok (.iload 12, 2) := by decide +kernel
theorem dL_law_625 : decode cL_law 625 = .ok (.iconst 4, 1) := by decide +kernel
theorem dL_law_626 : decode cL_law 626 = .ok (.irem, 1) := by decide +kernel
theorem dL_law_627 : decode cL_law 627 = .ok (.invokestatic 139, 3) := by decide +kernel
theorem dL_law_630 : decode cL_law 630 = .ok (.iload 13, 2) := by decide +kernel
theorem dL_law_632 : decode cL_law 632 = .ok (.ifCond .eq 8, 3) := by decide +kernel
theorem dL_law_635 : decode cL_law 635 = .ok (.iload 15, 2) := by decide +kernel
theorem dL_law_637 : decode cL_law 637 = .ok (.goto 4, 3) := by decide +kernel
theorem dL_law_640 : decode cL_law 640 = .ok (.iconst (-1), 1) := by decide +kernel
theorem dL_law_641 : decode cL_law 641 = .ok (.if_icmp .eq 5, 3) := by decide +kernel
theorem dL_law_644 : decode cL_law 644 = .ok (.iconst 0, 1) := by decide +kernel
theorem dL_law_645 : decode cL_law 645 = .ok (.ireturn, 1) := by decide +kernel
theorem dL_law_646 : decode cL_law 646 = .ok (.aload_n 2, 1) := by decide +kernel
theorem dL_law_647 : decode cL_law 647 = .ok (.iconst 4, 1) := by decide +kernel
theorem dL_law_648 : decode cL_law 648 = .ok (.dup2, 1) := by decide +kernel
theorem dL_law_649 : decode cL_law 649 = .ok (.iaload, 1) := by decide +kernel
theorem dL_law_650 : decode cL_law 650 = .ok (.iload 14, 2) := by decide +kernel
theorem dL_law_652 : decode cL_law 652 = .ok (.ifCond .eq 7, 3) := by decide +kernel
theorem dL_law_655 : decode cL_law 655 = .ok (.iconst 1, 1) := by decide +kernel
theorem dL_law_656 : decode cL_law 656 = .ok (.goto 4, 3) := by decide +kernel
theorem dL_law_659 : decode cL_law 659 = .ok (.iconst 0, 1) := by decide +kernel
theorem dL_law_660 : decode cL_law 660 = .ok (.iadd, 1) := by decide +kernel
theorem dL_law_661 : decode cL_law 661 = .ok (.iastore, 1) := by decide +kernel
theorem dL_law_662 : decode cL_law 662 = .ok (.aload_n 2, 1) := by decide +kernel
theorem dL_law_663 : decode cL_law 663 = .ok (.iconst 1, 1) := by decide +kernel
theorem dL_law_664 : decode cL_law 664 = .ok (.dup2, 1) := by decide +kernel
theorem dL_law_665 : decode cL_law 665 = .ok (.iaload, 1) := by decide +kernel
theorem dL_law_666 : decode cL_law 666 = .ok (.iconst 1, 1) := by decide +kernel
theorem dL_law_667 : decode cL_law 667 = .ok (.iload 12, 2) := by decide +kernel
theorem dL_law_669 : decode cL_law 669 = .ok (.ishl, 1) := by decide +kernel
theorem dL_law_670 : decode cL_law 670 = .ok (.iconst (-1), 1) := by decide +kernel
theorem dL_law_671 : decode cL_law 671 = .ok (.ixor, 1) := by decide +kernel
theorem dL_law_672 : decode cL_law 672 = .ok (.iand, 1) := by decide +kernel
theorem dL_law_673 : decode cL_law 673 = .ok (.iastore, 1) := by decide +kernel
theorem dL_law_674 : decode cL_law 674 = .ok (.goto 130, 3) := by decide +kernel
theorem dL_law_677 : decode cL_law 677 = .ok (.iload 10, 2) := by decide +kernel
theorem dL_law_679 : decode cL_law 679 = .ok (.bipush 6, 2) := by decide +kernel
theorem dL_law_681 : decode cL_law 681 = .ok (.if_icmp .ne 40, 3) := by decide +kernel
theorem dL_law_684 : decode cL_law 684 = .ok (.iconst 1, 1) := by decide +kernel
theorem dL_law_685 : decode cL_law 685 = .ok (.iload 9, 2) := by decide +kernel
theorem dL_law_687 : decode cL_law 687 = .ok (.bipush 7, 2) := by decide +kernel
theorem dL_law_689 : decode cL_law 689 = .ok (.ishr, 1) := by decide +kernel
theorem dL_law_690 : decode cL_law 690 = .ok (.bipush 32, 2) := by decide +kernel
theorem dL_law_692 : decode cL_law 692 = .ok (.invokestatic 123, 3) := by decide +kernel
theorem dL_law_695 : decode cL_law 695 = .ok (.iadd, 1) := by decide +kernel
theorem dL_law_696 : decode cL_law 696 = .ok (.istore 14, 2) := by decide +kernel
theorem dL_law_698 : decode cL_law 698 = .ok (.aload_n 1, 1) := by decide +kernel
theorem dL_law_699 : decode cL_law 699 = .ok (.iload 14, 2) := by decide +kernel
theorem dL_law_701 : decode cL_law 701 = .ok (.invokevirtual 141, 3) := by decide +kernel
theorem dL_law_704 : decode cL_law 704 = .ok (.iload 14, 2) := by decide +kernel
theorem dL_law_706 : decode cL_law 706 = .ok (.aload_n 2, 1) := by decide +kernel
theorem dL_law_707 : decode cL_law 707 = .ok (.aload_n 3, 1) := by decide +kernel
theorem dL_law_708 : decode cL_law 708 = .ok (.aload 4, 2) := by decide +kernel
theorem dL_law_710 : decode cL_law 710 = .ok (.invokestatic 108, 3) := by decide +kernel
theorem dL_law_713 : decode cL_law 713 = .ok (.if_icmp .eq 5, 3) := by decide +kernel
theorem dL_law_716 : decode cL_law 716 = .ok (.iconst 0, 1) := by decide +kernel
theorem dL_law_717 : decode cL_law 717 = .ok (.ireturn, 1) := by decide +kernel
theorem dL_law_718 : decode cL_law 718 = .ok (.goto 86, 3) := by decide +kernel
theorem dL_law_721 : decode cL_law 721 = .ok (.aload_n 2, 1) := by decide +kernel
theorem dL_law_722 : decode cL_law 722 = .ok (.bipush 6, 2) := by decide +kernel
theorem dL_law_724 : decode cL_law 724 = .ok (.iload 9, 2) := by decide +kernel
theorem dL_law_726 : decode cL_law 726 = .ok (.bipush 7, 2) := by decide +kernel
theorem dL_law_728 : decode cL_law 728 = .ok (.ishr, 1) := by decide +kernel
theorem dL_law_729 : decode cL_law 729 = .ok (.iconst 3, 1) := by decide +kernel
theorem dL_law_730 : decode cL_law 730 = .ok (.invokestatic 123, 3) := by decide +kernel
theorem dL_law_733 : decode cL_law 733 = .ok (.ifCond .le 7, 3) := by decide +kernel
theorem dL_law_736 : decode cL_law 736 = .ok (.iconst 1, 1) := by decide +kernel
theorem dL_law_737 : decode cL_law 737 = .ok (.goto 4, 3) := by decide +kernel
theorem dL_law_740 : decode cL_law 740 = .ok (.iconst 0, 1) := by decide +kernel
theorem dL_law_741 : decode cL_law 741 = .ok (.iastore, 1) := by decide +kernel
theorem dL_law_742 : decode cL_law 742 = .ok (.iconst 0, 1) := by decide +kernel
theorem dL_law_743 : decode cL_law 743 = .ok (.istore 14, 2) := by decide +kernel
theorem dL_law_745 : decode cL_law 745 = .ok (.iconst 0, 1) := by decide +kernel
theorem dL_law_746 : decode cL_law 746 = .ok (.istore 15, 2) := by decide +kernel
theorem dL_law_748 : decode cL_law 748 = .ok (.iload 15, 2) := by decide +kernel
theorem dL_law_750 : decode cL_law 750 = .ok (.bipush 8, 2) := by decide +kernel
theorem dL_law_752 : decode cL_law 752 = .ok (.if_icmp .ge 28, 3) := by decide +kernel
theorem dL_law_755 : decode cL_law 755 = .ok (.iload 14, 2) := by decide +kernel
theorem dL_law_757 : decode cL_law 757 = .ok (.iload 15, 2) := by decide +kernel
theorem dL_law_759 : decode cL_law 759 = .ok (.aload_n 3, 1) := by decide +kernel
theorem dL_law_760 : decode cL_law 760 = .ok (.invokestatic 36, 3) := by decide +kernel
theorem dL_law_763 : decode cL_law 763 = .ok (.ifCond .eq 7, 3) := by decide +kernel
theorem dL_law_766 : decode cL_law 766 = .ok (.iconst 1, 1) := by decide +kernel
theorem dL_law_767 : decode cL_law 767 = .ok (.goto 4, 3) := by decide +kernel
theorem dL_law_770 : decode cL_law 770 = .ok (.iconst 0, 1) := by decide +kernel
theorem dL_law_771 : decode cL_law 771 = .ok (.iadd, 1) := by decide +kernel
theorem dL_law_772 : decode cL_law 772 = .ok (.istore 14, 2) := by decide +kernel
theorem dL_law_774 : decode cL_law 774 = .ok (.iinc 15 1, 3) := by decide +kernel
theorem dL_law_777 : decode cL_law 777 = .ok (.goto (-29), 3) := by decide +kernel
theorem dL_law_780 : decode cL_law 780 = .ok (.aload_n 1, 1) := by decide +kernel
theorem dL_law_781 : decode cL_law 781 = .ok (.aload_n 2, 1) := by decide +kernel
theorem dL_law_782 : decode cL_law 782 = .ok (.bipush 6, 2) := by decide +kernel
theorem dL_law_784 : decode cL_law 784 = .ok (.iaload, 1) := by decide +kernel
theorem dL_law_785 : decode cL_law 785 = .ok (.iconst 1, 1) := by decide +kernel
theorem dL_law_786 : decode cL_law 786 = .ok (.if_icmp .ne 7, 3) := by decide +kernel
theorem dL_law_789 : decode cL_law 789 = .ok (.iconst 1, 1) := by decide +kernel
theorem dL_law_790 : decode cL_law 790 = .ok (.goto 4, 3) := by decide +kernel
theorem dL_law_793 : decode cL_law 793 = .ok (.iconst 0, 1) := by decide +kernel
theorem dL_law_794 : decode cL_law 794 = .ok (.invokevirtual 143, 3) := by decide +kernel
theorem dL_law_797 : decode cL_law 797 = .ok (.iload 14, 2) := by decide +kernel
theorem dL_law_799 : decode cL_law 799 = .ok (.if_icmp .eq 5, 3) := by decide +kernel
theorem dL_law_802 : decode cL_law 802 = .ok (.iconst 0, 1) := by decide +kernel
theorem dL_law_803 : decode cL_law 803 = .ok (.ireturn, 1) := by decide +kernel
theorem dL_law_804 : decode cL_law 804 = .ok (.aload_n 1, 1) := by decide +kernel
theorem dL_law_805 : decode cL_law 805 = .ok (.aload_n 2, 1) := by decide +kernel
theorem dL_law_806 : decode cL_law 806 = .ok (.aload_n 3, 1) := by decide +kernel
theorem dL_law_807 : decode cL_law 807 = .ok (.aload 4, 2) := by decide +kernel
theorem dL_law_809 : decode cL_law 809 = .ok (.invokestatic 147, 3) := by decide +kernel
theorem dL_law_812 : decode cL_law 812 = .ok (.ifCond .ne 5, 3) := by decide +kernel
theorem dL_law_815 : decode cL_law 815 = .ok (.iconst 0, 1) := by decide +kernel
theorem dL_law_816 : decode cL_law 816 = .ok (.ireturn, 1) := by decide +kernel
theorem dL_law_817 : decode cL_law 817 = .ok (.iconst 0, 1) := by decide +kernel
theorem dL_law_818 : decode cL_law 818 = .ok (.istore 14, 2) := by decide +kernel
theorem dL_law_820 : decode cL_law 820 = .ok (.aload_n 2, 1) := by decide +kernel
theorem dL_law_821 : decode cL_law 821 = .ok (.iconst 0, 1) := by decide +kernel
theorem dL_law_822 : decode cL_law 822 = .ok (.iaload, 1) := by decide +kernel
theorem dL_law_823 : decode cL_law 823 = .ok (.iload 14, 2) := by decide +kernel
theorem dL_law_825 : decode cL_law 825 = .ok (.ishr, 1) := by decide +kernel
theorem dL_law_826 : decode cL_law 826 = .ok (.iconst 1, 1) := by decide +kernel
theorem dL_law_827 : decode cL_law 827 = .ok (.iand, 1) := by decide +kernel
theorem dL_law_828 : decode cL_law 828 = .ok (.ifCond .ne 9, 3) := by decide +kernel
theorem dL_law_831 : decode cL_law 831 = .ok (.iinc 14 1, 3) := by decide +kernel
theorem dL_law_834 : decode cL_law 834 = .ok (.goto (-14), 3) := by decide +kernel
theorem dL_law_837 : decode cL_law 837 = .ok (.aload_n 1, 1) := by decide +kernel
theorem dL_law_838 : decode cL_law 838 = .ok (.iload 14, 2) := by decide +kernel
theorem dL_law_840 : decode cL_law 840 = .ok (.aload_n 2, 1) := by decide +kernel
theorem dL_law_841 : decode cL_law 841 = .ok (.aload_n 3, 1) := by decide +kernel
theorem dL_law_842 : decode cL_law 842 = .ok (.aload 4, 2) := by decide +kernel
theorem dL_law_844 : decode cL_law 844 = .ok (.aload 5, 2) := by decide +kernel
theorem dL_law_846 : decode cL_law 846 = .ok (.aload 6, 2) := by decide +kernel
theorem dL_law_848 : decode cL_law 848 = .ok (.aload 7, 2) := by decide +kernel
theorem dL_law_850 : decode cL_law 850 = .ok (.invokestatic 151, 3) := by decide +kernel
theorem dL_law_853 : decode cL_law 853 = .ok (.ifCond .ne 5, 3) := by decide +kernel
theorem dL_law_856 : decode cL_law 856 = .ok (.iconst 0, 1) := by decide +kernel
theorem dL_law_857 : decode cL_law 857 = .ok (.ireturn, 1) := by decide +kernel
theorem dL_law_858 : decode cL_law 858 = .ok (.iinc 8 1, 3) := by decide +kernel
theorem dL_law_861 : decode cL_law 861 = .ok (.goto (-812), 3) := by decide +kernel
theorem dL_law_864 : decode cL_law 864 = .ok (.iconst 1, 1) := by decide +kernel
theorem dL_law_865 : decode cL_law 865 = .ok (.ireturn, 1) := by decide +kernel
abbrev vwCl : List vw_C := [(RX0, TX0, 3), (RX1, TX1, 10), (RX2, TX2, 2), (RX3, TX3, 6)]
