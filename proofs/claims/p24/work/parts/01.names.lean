/-! ===== BEGIN words of one list among another's, by their places ===== -/
/-! ===== END ===== -/

/-! ===== BEGIN exceptions that leave a method, and their catching by the caller (launches without stack traces) ===== -/
section VXA
/-! The laws vx_back, vx_callV, vx_callS, vx_callSW, vx_throw0, vx_throwS follow proofs of the library, with one case more: JvmDerived/Free/Laws.lean (Back.of_free), Shelf42/LK1.lean (callV, callS), Shelf/KitTraced.lean (throwNew0V, throwNewS). -/
/-- where a method has thrown q: the class by its name, the cell, what was written, the world -/
def vx_T (XC : String → State → State → Prop) (st : State) (q : Addr) (t : State) (mc ms : Nat) (free : Addr → Prop) : Prop :=
  ∃ (E : String) (ce : Cell) (L : List Loc), XC E st t ∧ t.heap[q]? = some ce ∧ ce.vm = .none ∧ st.vm.findClass E = some ce.cls ∧ st.WarmedH t.vm ∧ st.sameButNew ({ t with vm := st.vm } : State) L mc ms ∧ ∀ z ∈ L, free z.base
def vx_Q (Qc : Array Value → State → Outcome → State → Prop) (XC : String → State → State → Prop) (mc ms : Nat) (free : Addr → Prop) : Array Value → State → Outcome → State → Prop := fun a st o t =>
  (Qc a st o t ∧ ∃ L, FrameEnd st o t L mc ms ∧ ∀ q ∈ L, free q.base) ∨ ∃ q, o = .threw q ∧ vx_T XC st q t mc ms free
/-- a callee that returns or throws -/
def vx_Met (l : Launch) (y : MethodName) (ws : List Cond) (rm : Room) (Pc : Array Value → State → Prop) (Qc : Array Value → State → Outcome → State → Prop) (XC : String → State → State → Prop) (mc ms : Nat) (free : Addr → Prop) : Prop :=
  MetFree l y (headSpec ws rm) Pc (fun _ _ _ _ _ => True) (vx_Q Qc XC mc ms free)
def vx_Post (XC : String → State → State → Prop) (mc ms : Nat) (free : Addr → Prop) : Pt → Array Value → Addr → Pt → Prop := fun A a q B =>
  ∃ (g : JFrame) (mk : MethodId) (t : State) (L : List Loc) (E : String) (ce : Cell), B.U.heap = t.heap ∧ B.U.vm = t.vm ∧ XC E (A.U.calling g mk a) t ∧ t.heap[q]? = some ce ∧ ce.vm = .none ∧ A.U.vm.findClass E = some ce.cls ∧ B.locs = A.locs ++ L ∧ (∀ z ∈ L, free z.base) ∧ B.cells = A.cells + mc ∧ B.slots = A.slots + ms
def vx_Back (l : Launch) (R : Room) (p : Program) (e : Env) (below : List Frame) (s : State) (sargs : Array Value) (y : MethodName) (len W9 : Nat)
    (Pre : Pt → Array Value → Prop) (Post : Pt → Array Value → Option Value → Pt → Prop) (PostX : Pt → Array Value → Addr → Pt → Prop) : Prop :=
  ∀ (m : MethodId) (meth : Method) (c : Code) (A : Pt) (g : JFrame) (ig : Instr) (mk : MethodId) (a : Array Value),
    Stand p l e R s m sargs below meth c A.U A.locs A.cells A.slots → g.method = m → g.locals.size = c.maxLocals → decode c.code g.pc = .ok (ig, len) →
    2 * g.monitorRoom + (g.stack.map fun v => v.category).sum ≤ W9 → A.U.methodNamed? y = some mk → Pre A a →
    (∃ (v : Option Value) (B : Pt), Stand p l e R s m sargs below meth c B.U B.locs B.cells B.slots ∧ Post A a v B ∧
      Steps p.tables e below (doInvoke e (A.U.setTop g) [] mk a).1 (B.U.setTop { g with pc := g.pc + len, stack := v.toList ++ g.stack })) ∨
    (∃ (q : Addr) (B : Pt), Stand p l e R s m sargs below meth c B.U B.locs B.cells B.slots ∧ PostX A a q B ∧
      Steps p.tables e below (doInvoke e (A.U.setTop g) [] mk a).1 ((B.U.setTop g).pushFrame (.throwing q)))
section Payer
variable {l : Launch} {R : Room} {p : Program} {e : Env} {below : List Frame} {s : State} {sargs : Array Value} {y : MethodName} {len W9 : Nat}
theorem vx_back {ws : List Cond} {rm : Room} {Pc : Array Value → State → Prop} {Qc : Array Value → State → Outcome → State → Prop} {XC : String → State → State → Prop} {mc ms : Nat} {free : Addr → Prop} {bytes : ByteArray} {maxL : Nat} {ret : Option FieldType}
    (hM : vx_Met l y ws rm Pc Qc XC mc ms free) (hblind : FrameBlind Pc) (hrc : rm.cells = mc) (hrs : rm.slots = ms)
    (hframes : rm.frames + 1 ≤ R.frames) (hlocals : W9 + (maxL + 11) + rm.locals ≤ R.locals)
    (hws : ∀ w ∈ ws, ∀ a' U, s.WarmedH U.vm → w.before a' U = true) (hcode : Cond.code y bytes maxL ret ∈ ws) (hinit : ∀ a' U, s.WarmedH U.vm → (Cond.initialized y.cls).before a' U = true) :
    vx_Back l R p e below s sargs y len W9 (PreOf R mc ms Pc) (PostOf Qc mc ms free) (vx_Post XC mc ms free) := by
  intro m meth c A g ig mk a X hg hsize hdg hW hn hp
  have h1 : (headSpec ws rm).pre.before a A.U = true := atoms_intro fun w hw => hws w hw _ _ X.warmed
  have h2 : (Cond.code y bytes maxL ret).before a A.U = true := hws _ hcode _ _ X.warmed
  have h3 : (Cond.initialized y.cls).before a A.U = true := hinit _ _ X.warmed
  have h4 : A.cells + (headSpec ws rm).room.cells ≤ R.cells := by rw [show (headSpec ws rm).room.cells = mc from hrc]; exact hp.1
  have h5 : A.slots + (headSpec ws rm).room.slots ≤ R.slots := by rw [show (headSpec ws rm).room.slots = ms from hrs]; exact hp.2.1
  have hPc : Pc a (A.U.calling g mk a) := hblind _ _ _ _ hp.2.2
  obtain ⟨U, Ls, c0, s0⟩ := A
  dsimp only [Pt.U, Pt.locs, Pt.cells, Pt.slots] at h1 h2 h3 h4 h5 X hn hPc ⊢
  obtain ⟨methY, cY, hmY, hcY, -, hlY, -, -, -, -⟩ := Cond.code_spec hn h2
  obtain ⟨kY, hkY, -⟩ := className_of_methodNamed hn
  have hinitY : kY.init = .initialized := Cond.initialized_spec (findClass_of_methodNamed hn) hkY h3
  have h : At U g.method c below := by rw [hg]; exact X.here
  have hlocals9 : W9 + (maxL + 11) + (headSpec ws rm).room.locals ≤ R.locals := hlocals
  have happ : (headSpec ws rm).appliesLoose y e.platform (U.calling g mk a) = true :=
    Spec.appliesLoose_calling (g := g) h hdg hn hkY hinitY
      (X.room_calling (g := g) (R' := (headSpec ws rm).room) hsize hmY hcY hframes (by rw [hlY]; omega) h4 h5) h1
  obtain ⟨mid, hmid⟩ := h.above
  have hfr : (U.setTop g).frames = (.java g :: mid) ++ below := by rw [State.frames_setTop' g h.top, hmid]; rfl
  obtain ⟨o, s₂, hsteps, -, hend, hq⟩ := Steps.callFree hM p X.admits X.cas X.clock (acts := []) hfr happ hPc trivial
  have hq' : vx_Q Qc XC mc ms free a (U.calling g mk a) o s₂ := hq
  rw [State.frames_setTop' g h.top] at hend
  obtain ⟨g₀, hg0⟩ := Option.isSome_iff_exists.mp h.top
  obtain ⟨r, hr⟩ := State.topJava?_eq_some.mp hg0
  have hr' : (({ U with heap := s₂.heap, slotsUsed := s₂.slotsUsed } : State).setVm s₂.vm).frames = .java g₀ :: r := hr
  rcases hq' with ⟨hqc, L, hfe, hL⟩ | ⟨q, rfl, E, ce, L, hx, hce, hcv, hcl, hW₂, hsm, hL⟩
  · obtain ⟨⟨v, rfl⟩, hW₂, e2, q2, q3, q4, q5, q6⟩ := id hfe
    have e3 : s₂ = ({ (U.calling g mk a).setFrames s₂.frames with heap := s₂.heap, slotsUsed := s₂.slotsUsed } : State).setVm s₂.vm := by
      have : s₂ = ({ s₂ with vm := (U.calling g mk a).vm } : State).setVm s₂.vm := rfl
      rw [e2] at this
      exact this
    obtain ⟨c₂, i₂, len₂, hc₂, hd₂, hf₂⟩ := hend
    have hW' : U.WarmedH s₂.vm := hW₂
    have hcc : c₂ = c := by
      have h1 : s₂.code? g.method = U.code? g.method := by
        rw [State.code?_eq, State.code?_eq, hW'.alike.method?]
      exact Option.some.inj (hc₂.symm.trans (h1.trans h.code))
    subst hcc
    have hlen : len₂ = len := by rw [hdg] at hd₂; cases hd₂; rfl
    subst hlen
    have hs₂ : s₂ = (({ U with heap := s₂.heap, slotsUsed := s₂.slotsUsed } : State).setVm s₂.vm).setTop { g with pc := g.pc + len₂, stack := v.toList ++ g.stack } := by
      refine e3.trans ?_
      rw [hf₂, State.calling_eq h.top, State.setFrames_setFrames, State.setTop_of_frames _ hr', hr]
      rfl
    have hsame : U.sameButNew ({ U with heap := s₂.heap, slotsUsed := s₂.slotsUsed } : State) L mc ms := by
      refine ⟨?_, q2, q3, q4, q5, q6⟩
      obtain ⟨t, ht, -⟩ := State.frames_cons hr
      show ({ U with heap := s₂.heap, slotsUsed := s₂.slotsUsed } : State) = { U.setFrames U.frames with heap := s₂.heap, slotsUsed := s₂.slotsUsed }
      rw [State.setFrames_self ht]
    subst hg
    refine Or.inl ⟨v, ⟨(({ U with heap := s₂.heap, slotsUsed := s₂.slotsUsed } : State).setVm s₂.vm), Ls ++ L, c0 + mc, s0 + ms⟩,
      ⟨X.admits, X.cas, X.clock, X.frames, X.room, X.hears, X.method, X.code, (X.here.setHeapUsed s₂.heap s₂.slotsUsed).setVm hW'.alike, X.tail, State.WarmedH.trans X.warmed hW', X.limits, X.bytes, X.same.trans (hsame.setVm s.vm)⟩,
      ⟨g, mk, s₂, L, rfl, rfl, hqc, rfl, hL, rfl, rfl⟩, ?_⟩
    show Steps p.tables e below _ ((({ U with heap := s₂.heap, slotsUsed := s₂.slotsUsed } : State).setVm s₂.vm).setTop { g with pc := g.pc + len₂, stack := v.toList ++ g.stack })
    rw [← hs₂]
    exact hsteps
  · obtain ⟨e2, q2, q3, q4, q5, q6⟩ := id hsm
    have e3 : s₂ = ({ (U.calling g mk a).setFrames s₂.frames with heap := s₂.heap, slotsUsed := s₂.slotsUsed } : State).setVm s₂.vm := by
      have : s₂ = ({ s₂ with vm := (U.calling g mk a).vm } : State).setVm s₂.vm := rfl
      rw [e2] at this
      exact this
    have hf₂ : s₂.frames = .throwing q :: .java g :: U.frames.tail := hend
    have hW' : U.WarmedH s₂.vm := hW₂
    have hs₂ : s₂ = ((({ U with heap := s₂.heap, slotsUsed := s₂.slotsUsed } : State).setVm s₂.vm).setTop g).pushFrame (.throwing q) := by
      refine e3.trans ?_
      rw [hf₂, State.calling_eq h.top, State.setFrames_setFrames, State.pushFrame, State.frames_setTop _ hr', State.setTop_of_frames _ hr', State.setFrames_setFrames, hr]
      rfl
    have hsame : U.sameButNew ({ U with heap := s₂.heap, slotsUsed := s₂.slotsUsed } : State) L mc ms := by
      refine ⟨?_, q2, q3, q4, q5, q6⟩
      obtain ⟨t, ht, -⟩ := State.frames_cons hr
      show ({ U with heap := s₂.heap, slotsUsed := s₂.slotsUsed } : State) = { U.setFrames U.frames with heap := s₂.heap, slotsUsed := s₂.slotsUsed }
      rw [State.setFrames_self ht]
    subst hg
    refine Or.inr ⟨q, ⟨(({ U with heap := s₂.heap, slotsUsed := s₂.slotsUsed } : State).setVm s₂.vm), Ls ++ L, c0 + mc, s0 + ms⟩,
      ⟨X.admits, X.cas, X.clock, X.frames, X.room, X.hears, X.method, X.code, (X.here.setHeapUsed s₂.heap s₂.slotsUsed).setVm hW'.alike, X.tail, State.WarmedH.trans X.warmed hW', X.limits, X.bytes, X.same.trans (hsame.setVm s.vm)⟩,
      ⟨g, mk, s₂, L, E, ce, rfl, rfl, hx, hce, hcv, hcl, rfl, hL, rfl, rfl⟩, ?_⟩
    show Steps p.tables e below _ (((({ U with heap := s₂.heap, slotsUsed := s₂.slotsUsed } : State).setVm s₂.vm).setTop g).pushFrame (.throwing q))
    rw [← hs₂]
    exact hsteps
end Payer
section Calls
variable {p : Program} {l : Launch} {e : Env} {R : Room} {s : State} {m : MethodId} {args : Array Value} {below : List Frame} {meth : Method} {c : Code} {T : State} {locs : List Loc} {cells slots : Nat}
theorem vx_callV (X : Stand p l e R s m args below meth c T locs cells slots) (hexec : p.tables.exec = Jvm.exec) {own C : String} {index : Nat} {y : MethodName} {bytes : ByteArray} {maxL : Nat} {ret : Option FieldType}
    (hown : s.vm.findClass own = some m.cls) (hlink : (Cond.methodLink own index y).before args s = true) (hinst : (Cond.instanceMethod y).before args s = true) (hsel : (Cond.selects C y y).before args s = true)
    (hcode : (Cond.code y bytes maxL ret).before args s = true) (hy : y.cls ≠ "java/lang/invoke/MethodHandle" ∧ y.cls ≠ "java/lang/invoke/VarHandle")
    {W9 : Nat} {Pre : Pt → Array Value → Prop} {Post : Pt → Array Value → Option Value → Pt → Prop} {PostX : Pt → Array Value → Addr → Pt → Prop} (hK : vx_Back l R p e below s args y 3 W9 Pre Post PostX)
    {b : Addr} {cellB : Cell} (hcell : T.heap[b]? = some cellB) (hobj : cellB.vm.isStatics = false) (hcls : s.vm.findClass C = some cellB.cls)
    {g : JFrame} (hg : g.method = m) (hsize : g.locals.size = c.maxLocals) {argsL rest : List Value} (hlen : ∀ sig, parseMethodDescriptor y.desc = some sig → argsL.length = sig.parameters.length)
    (hstack : g.stack = argsL.reverse ++ .ref b :: rest) (hW : 2 * g.monitorRoom + (rest.map fun v => v.category).sum ≤ W9) (hdg : decode c.code g.pc = .ok (.invokevirtual index, 3))
    (hpre : ∀ vm₁, s.WarmedH vm₁ → Pre ⟨T.setVm vm₁, locs, cells, slots⟩ (Value.ref b :: argsL).toArray) :
    (∃ (v : Option Value) (vm₁ : Vm) (B : Pt), s.WarmedH vm₁ ∧ Stand p l e R s m args below meth c B.U B.locs B.cells B.slots ∧ Post ⟨T.setVm vm₁, locs, cells, slots⟩ (Value.ref b :: argsL).toArray v B ∧
      ∀ target, Steps p.tables e below (B.U.setTop { g with pc := g.pc + 3, stack := v.toList ++ rest }) target → Steps p.tables e below (T.setTop g) target) ∨
    (∃ (q : Addr) (vm₁ : Vm) (B : Pt), s.WarmedH vm₁ ∧ Stand p l e R s m args below meth c B.U B.locs B.cells B.slots ∧ PostX ⟨T.setVm vm₁, locs, cells, slots⟩ (Value.ref b :: argsL).toArray q B ∧
      Steps p.tables e below (T.setTop g) ((B.U.setTop { g with stack := rest }).pushFrame (.throwing q))) := by
  obtain ⟨mk, methM, hnamed, hmethM, hstM, habM⟩ := Cond.instanceMethod_spec hinst
  obtain ⟨methM', cM, hmethM', -, -, -, -, -, -, hsigM⟩ := Cond.code_spec hnamed hcode
  cases hmethM.symm.trans hmethM'
  obtain ⟨c2, r2, m2, q1, q2, q3, q4, kP, hkP, hkPi⟩ := Cond.selects_spec hsel
  cases hcls.symm.trans q1
  cases (State.methodFound?_of_named hnamed hy).symm.trans q2
  cases hnamed.symm.trans q3
  have hselP : selectMethod e.platform s.vm cellB.cls mk = .method mk := by rw [Launch.admits_selectMethod X.admits]; exact q4
  obtain ⟨vm₁, X₁, hstep₁⟩ := X.invokevirtual hexec hown hlink hnamed hmethM hstM hkP hkPi hy (a := b) (cell := cellB) hcell
    (fun z h => by rw [h] at hobj; cases hobj) hselP hmethM habM hkP hkPi (g := g) hg (argsL := argsL) (rest := rest) (hlen _ hsigM) hstack hdg
  rcases hK m meth c ⟨T.setVm vm₁, locs, cells, slots⟩ { g with stack := rest } (.invokevirtual index) mk (Value.ref b :: argsL).toArray X₁ hg hsize hdg hW (X₁.named hnamed) (hpre vm₁ X₁.warmed) with ⟨v, B, X', hpost, hsteps⟩ | ⟨q, B, X', hpost, hsteps⟩
  · exact Or.inl ⟨v, vm₁, B, X₁.warmed, X', hpost, fun target h => hstep₁ _ fun acts => by rw [doInvoke_state]; exact hsteps.trans h⟩
  · exact Or.inr ⟨q, vm₁, B, X₁.warmed, X', hpost, hstep₁ _ fun acts => by rw [doInvoke_state]; exact hsteps⟩
theorem vx_callS (X : Stand p l e R s m args below meth c T locs cells slots) (hexec : p.tables.exec = Jvm.exec) {own : String} {index : Nat} {y : MethodName} {bytes : ByteArray} {maxL : Nat} {ret : Option FieldType}
    (hown : s.vm.findClass own = some m.cls) (hlink : (Cond.methodLink own index y).before args s = true) (hstat : (Cond.static y).before args s = true) (hinit : (Cond.initialized y.cls).before args s = true)
    (hcode : (Cond.code y bytes maxL ret).before args s = true) (hy : y.cls ≠ "java/lang/invoke/MethodHandle" ∧ y.cls ≠ "java/lang/invoke/VarHandle")
    {W9 : Nat} {Pre : Pt → Array Value → Prop} {Post : Pt → Array Value → Option Value → Pt → Prop} {PostX : Pt → Array Value → Addr → Pt → Prop} (hK : vx_Back l R p e below s args y 3 W9 Pre Post PostX)
    {g : JFrame} (hg : g.method = m) (hsize : g.locals.size = c.maxLocals) {argsL rest : List Value} (hlen : ∀ sig, parseMethodDescriptor y.desc = some sig → argsL.length = sig.parameters.length)
    (hstack : g.stack = argsL.reverse ++ rest) (hW : 2 * g.monitorRoom + (rest.map fun v => v.category).sum ≤ W9) (hdg : decode c.code g.pc = .ok (.invokestatic index, 3))
    (hpre : ∀ vm₁, s.WarmedH vm₁ → Pre ⟨T.setVm vm₁, locs, cells, slots⟩ argsL.toArray) :
    (∃ (v : Option Value) (vm₁ : Vm) (B : Pt), s.WarmedH vm₁ ∧ Stand p l e R s m args below meth c B.U B.locs B.cells B.slots ∧ Post ⟨T.setVm vm₁, locs, cells, slots⟩ argsL.toArray v B ∧
      ∀ target, Steps p.tables e below (B.U.setTop { g with pc := g.pc + 3, stack := v.toList ++ rest }) target → Steps p.tables e below (T.setTop g) target) ∨
    (∃ (q : Addr) (vm₁ : Vm) (B : Pt), s.WarmedH vm₁ ∧ Stand p l e R s m args below meth c B.U B.locs B.cells B.slots ∧ PostX ⟨T.setVm vm₁, locs, cells, slots⟩ argsL.toArray q B ∧
      Steps p.tables e below (T.setTop g) ((B.U.setTop { g with stack := rest }).pushFrame (.throwing q))) := by
  obtain ⟨mk, hnamed⟩ := Cond.code_named hcode
  obtain ⟨methM, cM, hmethM, -, -, -, -, -, -, hsigM⟩ := Cond.code_spec hnamed hcode
  have hstatic : methM.isStatic = true := Cond.static_spec hnamed hmethM hstat
  obtain ⟨kP, hkP, -⟩ := className_of_methodNamed hnamed
  have hinitP : kP.init = .initialized := Cond.initialized_spec (findClass_of_methodNamed hnamed) hkP hinit
  obtain ⟨vm₁, X₁, hstep₁⟩ := X.invokestatic hexec hown hlink hnamed hmethM hstatic hkP hinitP hy (g := g) hg (argsL := argsL) (rest := rest) (hlen _ hsigM) hstack hdg
  rcases hK m meth c ⟨T.setVm vm₁, locs, cells, slots⟩ { g with stack := rest } (.invokestatic index) mk argsL.toArray X₁ hg hsize hdg hW (X₁.named hnamed) (hpre vm₁ X₁.warmed) with ⟨v, B, X', hpost, hsteps⟩ | ⟨q, B, X', hpost, hsteps⟩
  · exact Or.inl ⟨v, vm₁, B, X₁.warmed, X', hpost, fun target h => hstep₁ _ fun acts => by rw [doInvoke_state]; exact hsteps.trans h⟩
  · exact Or.inr ⟨q, vm₁, B, X₁.warmed, X', hpost, hstep₁ _ fun acts => by rw [doInvoke_state]; exact hsteps⟩
end Calls
theorem vx_cls {s : State} {T : State} {vm₁ : Vm} {E : String} {k : ClassId} (hW : s.WarmedH vm₁) (h : (T.setVm vm₁).vm.findClass E = some k) : s.vm.findClass E = some k := by
  have h1 : vm₁.findClass E = some k := h
  rw [hW.alike.findClass] at h1
  exact h1
/-- the method's frame g, with q thrown over it -/
def vx_W (p : Program) (l : Launch) (e : Env) (R : Room) (s : State) (m : MethodId) (args : Array Value) (below : List Frame) (meth : Method) (c : Code) (H : Heap) (locs : List Loc) (cells slots : Nat) (Q : State → Prop) (g : JFrame) (q : Addr) : Prop :=
  ∀ T : State, T.heap = H → Stand p l e R s m args below meth c T locs cells slots → ∃ t, Steps p.tables e below ((T.setTop g).pushFrame (.throwing q)) t ∧ Q t
def vx_Run (p : Program) (l : Launch) (e : Env) (R : Room) (s : State) (m : MethodId) (args : Array Value) (below : List Frame) (meth : Method) (c : Code) (H : Heap) (locs : List Loc) (cells slots mc ms : Nat) (g : JFrame) (rest : List Value) (Qa : State → Outcome → State → Prop) (XC : String → State → State → Prop) (free : Addr → Prop) : Prop :=
  ∀ T : State, T.heap = H → Stand p l e R s m args below meth c T locs cells slots →
    (∃ (v : Option Value) (st₀ t T' : State) (L : List Loc), st₀.heap = H ∧ Stand p l e R s m args below meth c T' (locs ++ L) (cells + mc) (slots + ms) ∧ (∀ q ∈ L, free q.base) ∧ T'.heap = t.heap ∧ T'.vm = t.vm ∧ Qa st₀ (.returned v) t ∧
      Goes p e below T g T' { g with pc := g.pc + 3, stack := v.toList ++ rest }) ∨
    (∃ (q : Addr) (st₀ t T' : State) (L : List Loc) (E : String) (ce : Cell), st₀.heap = H ∧ Stand p l e R s m args below meth c T' (locs ++ L) (cells + mc) (slots + ms) ∧ (∀ z ∈ L, free z.base) ∧ T'.heap = t.heap ∧ T'.vm = t.vm ∧ XC E st₀ t ∧ t.heap[q]? = some ce ∧ ce.vm = .none ∧ s.vm.findClass E = some ce.cls ∧
      Steps p.tables e below (T.setTop g) ((T'.setTop { g with stack := rest }).pushFrame (.throwing q)))
def vx_X {S : Type} (px : S → Prop) (B : String → S → State → Prop) (A : Nat → Prop) : String → State → State → Prop := fun E st t => ∃ u : S, px u ∧ B E u t ∧ va_F A st t
section Runs
variable {p : Program} {l : Launch} {e : Env} {R : Room} {s : State} {m : MethodId} {args : Array Value} {below : List Frame} {meth : Method} {c : Code} {H : Heap} {locs : List Loc} {cells slots : Nat}
variable {y : MethodName} {bytes cc : ByteArray} {maxL nL mc ms n index : Nat} {ret : Option FieldType} {ws : List Cond} {rm : Room} {Pc : Array Value → State → Prop} {Qc : Array Value → State → Outcome → State → Prop} {XC : String → State → State → Prop} {free : Addr → Prop} {Ts : List Cond} {own C : String} {b : Addr} {As rest : List Value} {g : JFrame}
theorem vx_callBack (cb : CallB R s args own index y bytes maxL ret ws rm mc ms n) (hM : vx_Met l y ws rm Pc Qc XC mc ms free) (hbl : FrameBlind Pc) : vx_Back l R p e below s args y 3 8 (PreOf R mc ms Pc) (PostOf Qc mc ms free) (vx_Post XC mc ms free) := by
  obtain ⟨hrc, hrs, hfr, hlo, hws, hcw, -, hini, -⟩ := cb
  exact vx_back (bytes := bytes) (maxL := maxL) (ret := ret) hM hbl hrc hrs hfr hlo hws hcw (fun a' U hW => word_at hW (Or.inl (by first | rfl | simp [Cond.onTables, Cond.keeps, Cond.steady])) hini)
theorem vx_runV (S : CallFix p m c cc nL s args Ts own) (hM : vx_Met l y ws rm Pc Qc XC mc ms free) (cw : CallW R s args own C index y bytes maxL ret ws rm mc ms n) (hp : PreV s H C b Pc As)
    (hg : g.method = m) (hn : As.length = n) (hsize : g.locals.size = nL) (hstack : g.stack = As.reverse ++ .ref b :: rest) (hW : 2 * g.monitorRoom + (rest.map fun v => v.category).sum ≤ 8) (hdg : decode cc g.pc = .ok (.invokevirtual index, 3)) (hf : cells + mc ≤ R.cells ∧ slots + ms ≤ R.slots) :
    vx_Run p l e R s m args below meth c H locs cells slots mc ms g rest (Qc (Value.ref b :: As).toArray) XC free := by
  have hK : vx_Back l R p e below s args y 3 8 (PreOf R mc ms Pc) (PostOf Qc mc ms free) (vx_Post XC mc ms free) := vx_callBack cw.1 hM hp.1
  obtain ⟨⟨-, -, -, -, -, -, hcode, -, hy, hlen, hl⟩, hin, hse⟩ := cw
  obtain ⟨hx, hb, hml, ho, -⟩ := S
  obtain ⟨-, ⟨cellB, hcB, hoB, hclB⟩, hPc⟩ := hp
  intro T hT X
  rcases vx_callV X hx (C := C) (bytes := bytes) (maxL := maxL) (ret := ret) ho hl hin hse hcode hy hK (by rw [hT]; exact hcB) hoB hclB hg (hsize.trans hml.symm) (argsL := As) (rest := rest) (fun sig h => hn.trans (hlen sig h)) hstack hW (by rw [hb]; exact hdg)
    (fun vm₁ hW₁ => ⟨hf.1, hf.2, hPc (T.setVm vm₁) hT hW₁⟩) with ⟨v, vm₁, ⟨U', l2, c2, s2⟩, hW₁, X', ⟨g', mk, t, L, e1, e2, hq, h1, hL, h2, h3⟩, st⟩ | ⟨q, vm₁, ⟨U', l2, c2, s2⟩, hW₁, X', ⟨g', mk, t, L, E, ce, e1, e2, hq, hce, hcv, hcl, h1, hL, h2, h3⟩, st⟩
  · dsimp only [Pt.U, Pt.locs, Pt.cells, Pt.slots] at X' e1 e2 h1 h2 h3 st
    subst h1; subst h2; subst h3
    exact Or.inl ⟨v, (T.setVm vm₁).calling g' mk (Value.ref b :: As).toArray, t, U', L, hT, X', hL, e1, e2, hq, st⟩
  · dsimp only [Pt.U, Pt.locs, Pt.cells, Pt.slots] at X' e1 e2 h1 h2 h3 st hcl
    subst h1; subst h2; subst h3
    exact Or.inr ⟨q, (T.setVm vm₁).calling g' mk (Value.ref b :: As).toArray, t, U', L, E, ce, hT, X', hL, e1, e2, hq, hce, hcv, vx_cls hW₁ hcl, st⟩
theorem vx_runS (S : CallFix p m c cc nL s args Ts own) (hM : vx_Met l y ws rm Pc Qc XC mc ms free) (cw : CallB R s args own index y bytes maxL ret ws rm mc ms n ∧ (Cond.static y).before args s = true) (hp : PreS s H Pc As)
    (hg : g.method = m) (hn : As.length = n) (hsize : g.locals.size = nL) (hstack : g.stack = As.reverse ++ rest) (hW : 2 * g.monitorRoom + (rest.map fun v => v.category).sum ≤ 8) (hdg : decode cc g.pc = .ok (.invokestatic index, 3)) (hf : cells + mc ≤ R.cells ∧ slots + ms ≤ R.slots) :
    vx_Run p l e R s m args below meth c H locs cells slots mc ms g rest (Qc As.toArray) XC free := by
  have hK : vx_Back l R p e below s args y 3 8 (PreOf R mc ms Pc) (PostOf Qc mc ms free) (vx_Post XC mc ms free) := vx_callBack cw.1 hM hp.1
  obtain ⟨⟨-, -, -, -, -, -, hcode, hini, hy, hlen, hl⟩, hstt⟩ := cw
  obtain ⟨hx, hb, hml, ho, -⟩ := S
  intro T hT X
  rcases vx_callS X hx (bytes := bytes) (maxL := maxL) (ret := ret) ho hl hstt hini hcode hy hK hg (hsize.trans hml.symm) (argsL := As) (rest := rest) (fun sig h => hn.trans (hlen sig h)) hstack hW (by rw [hb]; exact hdg)
    (fun vm₁ hW₁ => ⟨hf.1, hf.2, hp.2 (T.setVm vm₁) hT hW₁⟩) with ⟨v, vm₁, ⟨U', l2, c2, s2⟩, hW₁, X', ⟨g', mk, t, L, e1, e2, hq, h1, hL, h2, h3⟩, st⟩ | ⟨q, vm₁, ⟨U', l2, c2, s2⟩, hW₁, X', ⟨g', mk, t, L, E, ce, e1, e2, hq, hce, hcv, hcl, h1, hL, h2, h3⟩, st⟩
  · dsimp only [Pt.U, Pt.locs, Pt.cells, Pt.slots] at X' e1 e2 h1 h2 h3 st
    subst h1; subst h2; subst h3
    exact Or.inl ⟨v, (T.setVm vm₁).calling g' mk As.toArray, t, U', L, hT, X', hL, e1, e2, hq, st⟩
  · dsimp only [Pt.U, Pt.locs, Pt.cells, Pt.slots] at X' e1 e2 h1 h2 h3 st hcl
    subst h1; subst h2; subst h3
    exact Or.inr ⟨q, (T.setVm vm₁).calling g' mk As.toArray, t, U', L, E, ce, hT, X', hL, e1, e2, hq, hce, hcv, vx_cls hW₁ hcl, st⟩
end Runs
section Rows
variable {p : Program} {l : Launch} {e : Env} {R : Room} {s : State} {m : MethodId} {args : Array Value} {below : List Frame} {meth : Method} {c : Code} {H : Heap} {locs : List Loc} {cells slots : Nat} {Q : State → Prop}
variable {mc ms : Nat} {free : Addr → Prop} {A0 A1 : Nat → Prop} {H0 : Heap} {a : Array Value} {pc : Nat} {ls : Array Slot} {st0 rest : List Value}
theorem vx_keep {st₀ t T' : State} {L : List Loc} (h0 : st₀.heap = H) (e1 : T'.heap = t.heap) (hS : va_S A0 H0 H locs) (hA : ∀ q, q < H.size → A1 q → A0 q) (hf : ∀ q, free q → A0 q) (hL : ∀ q ∈ L, free q.base) (hF : va_F A1 st₀ t) :
    H.size ≤ T'.heap.size ∧ (∀ q : Nat, q < H.size → ¬ A1 q → T'.heap[q]? = H[q]?) ∧ va_S A0 H0 T'.heap (locs ++ L) := by
  obtain ⟨hz, hk⟩ := hF
  rw [h0] at hz hk
  exact ⟨by rw [e1]; exact hz, fun q h1 h2 => by rw [e1]; exact hk q h1 h2,
    ⟨Nat.le_trans hS.1 (by rw [e1]; exact hz), fun q h1 h2 => by rw [e1, hk q (Nat.lt_of_lt_of_le h1 hS.1) (fun z => h2 (hA q (Nat.lt_of_lt_of_le h1 hS.1) z))]; exact hS.2.1 q h1 h2, fun q hq => by
      rcases List.mem_append.mp hq with h | h
      · exact hS.2.2 q h
      · exact hf _ (hL q h)⟩⟩
theorem vx_calli {S SX : Type} {post : Int32 → S → Prop} {px : SX → Prop} {B : S → State → Prop} {BX : String → SX → State → Prop} {AX : Nat → Prop} (hr : vx_Run p l e R s m args below meth c H locs cells slots mc ms (F0 m pc ls st0) rest (va_Qi post B A1 a) (vx_X px BX AX) free) (hS : va_S A0 H0 H locs) (hA : ∀ q, q < H.size → A1 q → A0 q) (hf : ∀ q, free q → A0 q) (hAX : ∀ q, q < H.size → AX q → A0 q)
    (kx : ∀ (E : String) (ce : Cell) (q9 : Addr) (u : SX) (t : State) (H1 : Heap) (locs1 : List Loc), t.heap = H1 → s.vm.Alike t.vm → px u → BX E u t → H.size ≤ H1.size → (∀ q : Nat, q < H.size → ¬ AX q → H1[q]? = H[q]?) → va_S A0 H0 H1 locs1 → H1[q9]? = some ce → ce.vm = .none → s.vm.findClass E = some ce.cls → vx_W p l e R s m args below meth c H1 locs1 (cells + mc) (slots + ms) Q (F0 m pc ls rest) q9)
    (kk : ∀ (r : Int32) (u : S) (t : State) (H1 : Heap) (locs1 : List Loc), t.heap = H1 → s.vm.Alike t.vm → post r u → B u t → H.size ≤ H1.size → (∀ q : Nat, q < H.size → ¬ A1 q → H1[q]? = H[q]?) → va_S A0 H0 H1 locs1 → W p l e R s m args below meth c H1 locs1 (cells + mc) (slots + ms) Q (F0 m (pc + 3) ls (.int r :: rest))) : W p l e R s m args below meth c H locs cells slots Q (F0 m pc ls st0) := by
  intro T hT X
  rcases hr T hT X with ⟨v, st₀, t, T', L, h0, X', hL, e1, e2, ⟨⟨r, u, hv, hp, hb⟩, hF⟩, st⟩ | ⟨q, st₀, t, T', L, E, ce, h0, X', hL, e1, e2, ⟨u, hp, hb, hF⟩, hce, hcv, hcl, st⟩
  · cases hv
    obtain ⟨k1, k2, k3⟩ := vx_keep h0 e1 hS hA hf hL hF
    obtain ⟨t2, a1, b1⟩ := kk r u t T'.heap (locs ++ L) e1.symm (by rw [← e2]; exact X'.warmed.alike) hp hb k1 k2 k3 T' rfl X'
    exact ⟨t2, st t2 a1, b1⟩
  · obtain ⟨k1, k2, k3⟩ := vx_keep h0 e1 hS hAX hf hL hF
    obtain ⟨t2, a1, b1⟩ := kx E ce q u t T'.heap (locs ++ L) e1.symm (by rw [← e2]; exact X'.warmed.alike) hp hb k1 k2 k3 (by rw [e1]; exact hce) hcv hcl T' rfl X'
    exact ⟨t2, st.trans a1, b1⟩
theorem vx_calll {S SX : Type} {post : Int64 → S → Prop} {px : SX → Prop} {B : S → State → Prop} {BX : String → SX → State → Prop} {AX : Nat → Prop} (hr : vx_Run p l e R s m args below meth c H locs cells slots mc ms (F0 m pc ls st0) rest (va_Ql post B A1 a) (vx_X px BX AX) free) (hS : va_S A0 H0 H locs) (hA : ∀ q, q < H.size → A1 q → A0 q) (hf : ∀ q, free q → A0 q) (hAX : ∀ q, q < H.size → AX q → A0 q)
    (kx : ∀ (E : String) (ce : Cell) (q9 : Addr) (u : SX) (t : State) (H1 : Heap) (locs1 : List Loc), t.heap = H1 → s.vm.Alike t.vm → px u → BX E u t → H.size ≤ H1.size → (∀ q : Nat, q < H.size → ¬ AX q → H1[q]? = H[q]?) → va_S A0 H0 H1 locs1 → H1[q9]? = some ce → ce.vm = .none → s.vm.findClass E = some ce.cls → vx_W p l e R s m args below meth c H1 locs1 (cells + mc) (slots + ms) Q (F0 m pc ls rest) q9)
    (kk : ∀ (r : Int64) (u : S) (t : State) (H1 : Heap) (locs1 : List Loc), t.heap = H1 → s.vm.Alike t.vm → post r u → B u t → H.size ≤ H1.size → (∀ q : Nat, q < H.size → ¬ A1 q → H1[q]? = H[q]?) → va_S A0 H0 H1 locs1 → W p l e R s m args below meth c H1 locs1 (cells + mc) (slots + ms) Q (F0 m (pc + 3) ls (.long r :: rest))) : W p l e R s m args below meth c H locs cells slots Q (F0 m pc ls st0) := by
  intro T hT X
  rcases hr T hT X with ⟨v, st₀, t, T', L, h0, X', hL, e1, e2, ⟨⟨r, u, hv, hp, hb⟩, hF⟩, st⟩ | ⟨q, st₀, t, T', L, E, ce, h0, X', hL, e1, e2, ⟨u, hp, hb, hF⟩, hce, hcv, hcl, st⟩
  · cases hv
    obtain ⟨k1, k2, k3⟩ := vx_keep h0 e1 hS hA hf hL hF
    obtain ⟨t2, a1, b1⟩ := kk r u t T'.heap (locs ++ L) e1.symm (by rw [← e2]; exact X'.warmed.alike) hp hb k1 k2 k3 T' rfl X'
    exact ⟨t2, st t2 a1, b1⟩
  · obtain ⟨k1, k2, k3⟩ := vx_keep h0 e1 hS hAX hf hL hF
    obtain ⟨t2, a1, b1⟩ := kx E ce q u t T'.heap (locs ++ L) e1.symm (by rw [← e2]; exact X'.warmed.alike) hp hb k1 k2 k3 (by rw [e1]; exact hce) hcv hcl T' rfl X'
    exact ⟨t2, st.trans a1, b1⟩
theorem vx_callf {S SX : Type} {post : UInt32 → S → Prop} {px : SX → Prop} {B : S → State → Prop} {BX : String → SX → State → Prop} {AX : Nat → Prop} (hr : vx_Run p l e R s m args below meth c H locs cells slots mc ms (F0 m pc ls st0) rest (va_Qf post B A1 a) (vx_X px BX AX) free) (hS : va_S A0 H0 H locs) (hA : ∀ q, q < H.size → A1 q → A0 q) (hf : ∀ q, free q → A0 q) (hAX : ∀ q, q < H.size → AX q → A0 q)
    (kx : ∀ (E : String) (ce : Cell) (q9 : Addr) (u : SX) (t : State) (H1 : Heap) (locs1 : List Loc), t.heap = H1 → s.vm.Alike t.vm → px u → BX E u t → H.size ≤ H1.size → (∀ q : Nat, q < H.size → ¬ AX q → H1[q]? = H[q]?) → va_S A0 H0 H1 locs1 → H1[q9]? = some ce → ce.vm = .none → s.vm.findClass E = some ce.cls → vx_W p l e R s m args below meth c H1 locs1 (cells + mc) (slots + ms) Q (F0 m pc ls rest) q9)
    (kk : ∀ (r : UInt32) (u : S) (t : State) (H1 : Heap) (locs1 : List Loc), t.heap = H1 → s.vm.Alike t.vm → post r u → B u t → H.size ≤ H1.size → (∀ q : Nat, q < H.size → ¬ A1 q → H1[q]? = H[q]?) → va_S A0 H0 H1 locs1 → W p l e R s m args below meth c H1 locs1 (cells + mc) (slots + ms) Q (F0 m (pc + 3) ls (.float r :: rest))) : W p l e R s m args below meth c H locs cells slots Q (F0 m pc ls st0) := by
  intro T hT X
  rcases hr T hT X with ⟨v, st₀, t, T', L, h0, X', hL, e1, e2, ⟨⟨r, u, hv, hp, hb⟩, hF⟩, st⟩ | ⟨q, st₀, t, T', L, E, ce, h0, X', hL, e1, e2, ⟨u, hp, hb, hF⟩, hce, hcv, hcl, st⟩
  · cases hv
    obtain ⟨k1, k2, k3⟩ := vx_keep h0 e1 hS hA hf hL hF
    obtain ⟨t2, a1, b1⟩ := kk r u t T'.heap (locs ++ L) e1.symm (by rw [← e2]; exact X'.warmed.alike) hp hb k1 k2 k3 T' rfl X'
    exact ⟨t2, st t2 a1, b1⟩
  · obtain ⟨k1, k2, k3⟩ := vx_keep h0 e1 hS hAX hf hL hF
    obtain ⟨t2, a1, b1⟩ := kx E ce q u t T'.heap (locs ++ L) e1.symm (by rw [← e2]; exact X'.warmed.alike) hp hb k1 k2 k3 (by rw [e1]; exact hce) hcv hcl T' rfl X'
    exact ⟨t2, st.trans a1, b1⟩
theorem vx_calld {S SX : Type} {post : UInt64 → S → Prop} {px : SX → Prop} {B : S → State → Prop} {BX : String → SX → State → Prop} {AX : Nat → Prop} (hr : vx_Run p l e R s m args below meth c H locs cells slots mc ms (F0 m pc ls st0) rest (va_Qd post B A1 a) (vx_X px BX AX) free) (hS : va_S A0 H0 H locs) (hA : ∀ q, q < H.size → A1 q → A0 q) (hf : ∀ q, free q → A0 q) (hAX : ∀ q, q < H.size → AX q → A0 q)
    (kx : ∀ (E : String) (ce : Cell) (q9 : Addr) (u : SX) (t : State) (H1 : Heap) (locs1 : List Loc), t.heap = H1 → s.vm.Alike t.vm → px u → BX E u t → H.size ≤ H1.size → (∀ q : Nat, q < H.size → ¬ AX q → H1[q]? = H[q]?) → va_S A0 H0 H1 locs1 → H1[q9]? = some ce → ce.vm = .none → s.vm.findClass E = some ce.cls → vx_W p l e R s m args below meth c H1 locs1 (cells + mc) (slots + ms) Q (F0 m pc ls rest) q9)
    (kk : ∀ (r : UInt64) (u : S) (t : State) (H1 : Heap) (locs1 : List Loc), t.heap = H1 → s.vm.Alike t.vm → post r u → B u t → H.size ≤ H1.size → (∀ q : Nat, q < H.size → ¬ A1 q → H1[q]? = H[q]?) → va_S A0 H0 H1 locs1 → W p l e R s m args below meth c H1 locs1 (cells + mc) (slots + ms) Q (F0 m (pc + 3) ls (.double r :: rest))) : W p l e R s m args below meth c H locs cells slots Q (F0 m pc ls st0) := by
  intro T hT X
  rcases hr T hT X with ⟨v, st₀, t, T', L, h0, X', hL, e1, e2, ⟨⟨r, u, hv, hp, hb⟩, hF⟩, st⟩ | ⟨q, st₀, t, T', L, E, ce, h0, X', hL, e1, e2, ⟨u, hp, hb, hF⟩, hce, hcv, hcl, st⟩
  · cases hv
    obtain ⟨k1, k2, k3⟩ := vx_keep h0 e1 hS hA hf hL hF
    obtain ⟨t2, a1, b1⟩ := kk r u t T'.heap (locs ++ L) e1.symm (by rw [← e2]; exact X'.warmed.alike) hp hb k1 k2 k3 T' rfl X'
    exact ⟨t2, st t2 a1, b1⟩
  · obtain ⟨k1, k2, k3⟩ := vx_keep h0 e1 hS hAX hf hL hF
    obtain ⟨t2, a1, b1⟩ := kx E ce q u t T'.heap (locs ++ L) e1.symm (by rw [← e2]; exact X'.warmed.alike) hp hb k1 k2 k3 (by rw [e1]; exact hce) hcv hcl T' rfl X'
    exact ⟨t2, st.trans a1, b1⟩
theorem vx_callv {S SX : Type} {post : S → Prop} {px : SX → Prop} {B : S → State → Prop} {BX : String → SX → State → Prop} {AX : Nat → Prop} (hr : vx_Run p l e R s m args below meth c H locs cells slots mc ms (F0 m pc ls st0) rest (va_Qv post B A1 a) (vx_X px BX AX) free) (hS : va_S A0 H0 H locs) (hA : ∀ q, q < H.size → A1 q → A0 q) (hf : ∀ q, free q → A0 q) (hAX : ∀ q, q < H.size → AX q → A0 q)
    (kx : ∀ (E : String) (ce : Cell) (q9 : Addr) (u : SX) (t : State) (H1 : Heap) (locs1 : List Loc), t.heap = H1 → s.vm.Alike t.vm → px u → BX E u t → H.size ≤ H1.size → (∀ q : Nat, q < H.size → ¬ AX q → H1[q]? = H[q]?) → va_S A0 H0 H1 locs1 → H1[q9]? = some ce → ce.vm = .none → s.vm.findClass E = some ce.cls → vx_W p l e R s m args below meth c H1 locs1 (cells + mc) (slots + ms) Q (F0 m pc ls rest) q9)
    (kk : ∀ (u : S) (t : State) (H1 : Heap) (locs1 : List Loc), t.heap = H1 → s.vm.Alike t.vm → post u → B u t → H.size ≤ H1.size → (∀ q : Nat, q < H.size → ¬ A1 q → H1[q]? = H[q]?) → va_S A0 H0 H1 locs1 → W p l e R s m args below meth c H1 locs1 (cells + mc) (slots + ms) Q (F0 m (pc + 3) ls (rest))) : W p l e R s m args below meth c H locs cells slots Q (F0 m pc ls st0) := by
  intro T hT X
  rcases hr T hT X with ⟨v, st₀, t, T', L, h0, X', hL, e1, e2, ⟨⟨u, hv, hp, hb⟩, hF⟩, st⟩ | ⟨q, st₀, t, T', L, E, ce, h0, X', hL, e1, e2, ⟨u, hp, hb, hF⟩, hce, hcv, hcl, st⟩
  · cases hv
    obtain ⟨k1, k2, k3⟩ := vx_keep h0 e1 hS hA hf hL hF
    obtain ⟨t2, a1, b1⟩ := kk u t T'.heap (locs ++ L) e1.symm (by rw [← e2]; exact X'.warmed.alike) hp hb k1 k2 k3 T' rfl X'
    exact ⟨t2, st t2 a1, b1⟩
  · obtain ⟨k1, k2, k3⟩ := vx_keep h0 e1 hS hAX hf hL hF
    obtain ⟨t2, a1, b1⟩ := kx E ce q u t T'.heap (locs ++ L) e1.symm (by rw [← e2]; exact X'.warmed.alike) hp hb k1 k2 k3 (by rw [e1]; exact hce) hcv hcl T' rfl X'
    exact ⟨t2, st.trans a1, b1⟩
/-- caught by the row x of this method's table; the rows ahead don't take it -/
theorem vx_catch {own name : String} {E : String} {ce : Cell} {q : Addr} (hown : s.vm.findClass own = some m.cls) (pre : List ExceptionTableEntry) (x : ExceptionTableEntry) (suf : List ExceptionTableEntry) (hsplit : c.exceptionTable.toList = pre ++ x :: suf)
    (hpass : ∀ z ∈ pre, covers z pc = false ∨ (z.catchType ≠ 0 ∧ ∃ nm : String, (Cond.classLink own z.catchType nm).before args s = true ∧ va_Nc E nm s)) (hx : covers x pc = true) (h0 : x.catchType ≠ 0)
    (hlink : (Cond.classLink own x.catchType name).before args s = true) (hcast : (Cond.castable E name).before args s = true) (hcell : H[q]? = some ce) (hv : ce.vm = .none) (hcl : s.vm.findClass E = some ce.cls)
    (kk : W p l e R s m args below meth c H locs cells slots Q (F0 m x.handlerPc ls [.ref q])) : vx_W p l e R s m args below meth c H locs cells slots Q (F0 m pc ls rest) q := by
  intro T hT X
  have hpl : e.platform.magicAccessors = ({} : Platform).magicAccessors := by rw [X.admits.platform]
  obtain ⟨c3, c4, hc3, hc4, hasg⟩ := Cond.castable_spec hcast
  cases Option.some.inj (hc3.symm.trans hcl)
  obtain ⟨c5, hc5, hcl5⟩ := Cond.classLink_spec hown hlink e.platform hpl
  cases Option.some.inj (hc4.symm.trans hc5)
  obtain ⟨vm', X', st⟩ := X.thenCaughtThrough q (g := F0 m pc ls rest) rfl (Steps.refl _) (by rw [hT]; exact hcell) (by rw [hv]; rfl) (by obtain ⟨k9, h9, -⟩ := Vm.findClass_spec hcl; exact ⟨k9, h9⟩) pre x suf hsplit
    (fun z hz => by
      rcases hpass z hz with h | ⟨hz0, nm, hl1, hn1⟩
      · exact Or.inl h
      · obtain ⟨c6, hc6, hcl6⟩ := Cond.classLink_spec hown hl1 e.platform hpl
        obtain ⟨a8, b8, h1, h2, h3⟩ := hn1
        cases Option.some.inj (h1.symm.trans hcl)
        cases Option.some.inj (h2.symm.trans hc6)
        exact Or.inr ⟨hz0, _, hcl6, h3⟩) hx (Or.inr ⟨h0, c4, hcl5, hasg⟩)
  obtain ⟨t, a1, b1⟩ := kk (T.setVm vm') hT X'
  exact ⟨t, st.trans a1, b1⟩
end Rows
section Ends
variable {p : Program} {l : Launch} {e : Env} {R : Room} {s : State} {m : MethodId} {args : Array Value} {below : List Frame} {meth : Method} {c : Code} {H : Heap} {locs : List Loc} {cells slots : Nat} {Q : State → Prop}
variable {mc ms : Nat} {free : Addr → Prop} {A0 A1 : Nat → Prop} {H0 : Heap} {a : Array Value} {ls : Array Slot} {st0 rest : List Value}
variable {Qc : Array Value → State → Outcome → State → Prop} {XC : String → State → State → Prop}
/-- what a body that may throw owes at its end -/
def vx_MQ (below : List Frame) (Qc : Array Value → State → Outcome → State → Prop) (XC : String → State → State → Prop) (a : Array Value) (s : State) (mc ms : Nat) (free : Addr → Prop) : State → Prop := fun t =>
  ∃ o, t.status = .running ∧ Ended t below o ∧ vx_Q Qc XC mc ms free a s o t
theorem vx_ret {g : JFrame} {mc ms : Nat} (k : W p l e R s m args below meth c H locs cells slots (MQ below Qc args s mc ms free) g) : W p l e R s m args below meth c H locs cells slots (vx_MQ below Qc XC args s mc ms free) g := by
  intro T hT X
  obtain ⟨t, a1, o, b1, b2, b3, b4⟩ := k T hT X
  exact ⟨t, a1, o, b1, b2, Or.inl ⟨b3, b4⟩⟩
/-- not caught here: it goes on to the caller -/
theorem vx_widen {g : JFrame} {q : Addr} {k n : Nat} (h1 : cells ≤ k) (h2 : slots ≤ n) (kk : vx_W p l e R s m args below meth c H locs k n Q g q) : vx_W p l e R s m args below meth c H locs cells slots Q g q := fun T hT X => kk T hT (stand_widen X h1 h2)
theorem vx_out {pc : Nat} {E : String} {ce : Cell} {q : Addr} {mc ms : Nat} (hout : ∀ x ∈ c.exceptionTable.toList, covers x pc = false) (hlocks : meth.locks = false) (hcell : H[q]? = some ce) (hv : ce.vm = .none) (hcl : s.vm.findClass E = some ce.cls)
    (hx : ∀ t : State, t.heap = H → s.vm.Alike t.vm → XC E s t) (hf : ∀ z ∈ locs, free z.base) (hc : cells ≤ mc) (hs : slots ≤ ms) :
    vx_W p l e R s m args below meth c H locs cells slots (vx_MQ below Qc XC args s mc ms free) (F0 m pc ls rest) q := by
  intro T hT X
  obtain ⟨st1, hrun, hend, hW, hsm⟩ := X.leaveThrown q (g := F0 m pc ls rest) rfl rfl rfl hout hlocks
  have hcell9 : (T.setFrames (.throwing q :: below)).heap[q]? = some ce := by
    show T.heap[q]? = some ce
    rw [hT]; exact hcell
  exact ⟨_, st1, .threw q, hrun, hend, Or.inr ⟨q, rfl, E, ce, locs, hx _ hT hW.alike, hcell9, hv, hcl, hW, hsm.mono hc hs, hf⟩⟩
theorem vx_frame {U : State} {k n : Nat} (h : s.sameButNew ({ U with vm := s.vm } : State) locs k n) : s.heap.size ≤ U.heap.size ∧ ∀ q : Nat, q < s.heap.size → (∀ z ∈ locs, z.base ≠ q) → U.heap[q]? = s.heap[q]? := by
  obtain ⟨-, h2, -, -, -, h6⟩ := h
  refine ⟨h2, fun q hq hz => ?_⟩
  obtain ⟨c9, e1, e2, e3, e4⟩ := h6 q _ (Array.getElem?_eq_getElem hq)
  have hs : c9.slots = (s.heap[q]).slots := Array.ext_getElem? fun i => e4 i fun hm => hz _ hm rfl
  have h9 : c9 = s.heap[q] := by
    rw [hs] at e2
    exact e2
  have e5 : U.heap[q]? = some c9 := e1
  rw [e5, h9, Array.getElem?_eq_getElem hq]
/-- the words of a throw but the four that speak of the heap -/
def vx_no (w : Cond) : Bool := decide (w ≠ .isRef (.static Bundle.tN "UNASSIGNED_STACK" Bundle.steD)) && decide (w ≠ .isRef (.static Bundle.tN "SUPPRESSED_SENTINEL" Bundle.listD)) && decide (w ≠ .laysStatic Bundle.tN "UNASSIGNED_STACK" Bundle.steD) && decide (w ≠ .laysStatic Bundle.tN "SUPPRESSED_SENTINEL" Bundle.listD)
def vx_at0 (own : String) (ic : Nat) (X : String) (names : List String) : List Cond := (Bundle.ownAtoms0 own ic X names).filter vx_no
def vx_atS (own : String) (ic : Nat) (X : String) (names : List String) : List Cond := (Bundle.ownAtoms own ic X names).filter vx_no
/-- a word that the tables alone decide, or a good one -/
def vx_ot (w : Cond) : Bool := w.onTables || goodWord w
theorem vx_ot_at {args a' : Array Value} {s U : State} {w : Cond} (hW : s.WarmedH U.vm) (hvm : s.vm = U.vm) (hg : vx_ot w = true) (h : w.before args s = true) : w.before a' U = true := by
  simp only [vx_ot, Bool.or_eq_true] at hg
  rcases hg with hg | hg
  · exact va_tabs hg hvm h
  · exact word_at hW (good_of_word hg) h
/-- a list's words: the good ones out of the method's own list, the others by premises of their own -/
theorem vx_hat {args : Array Value} {s : State} {L B : List Cond} (h1 : ∀ w ∈ L.filter goodWord, w.before args s = true) (h2 : ∀ w ∈ L.filter (fun w => !goodWord w), w ∈ B) (h3 : ∀ w ∈ B, w.before args s = true) : ∀ w ∈ L, w.before args s = true := by
  intro w hw
  by_cases g : goodWord w = true
  · exact h1 w (List.mem_filter.mpr ⟨hw, g⟩)
  · refine h3 w (h2 w (List.mem_filter.mpr ⟨hw, ?_⟩))
    show (!goodWord w) = true
    cases hgw : goodWord w
    · rfl
    · exact absurd hgw g
theorem vx_c {args : Array Value} {s : State} {w : Cond} {B : List Cond} (h : w.before args s = true) (t : ∀ w ∈ B, w.before args s = true) : ∀ w' ∈ w :: B, w'.before args s = true := fun w' h' => (List.mem_cons.mp h').elim (fun e => by rw [e]; exact h) (t w')
theorem vx_n {args : Array Value} {s : State} : ∀ w ∈ ([] : List Cond), w.before args s = true := fun _ h => nomatch h
theorem vx_own {args : Array Value} {s : State} {L : List Cond} (h1 : ∀ w ∈ L.filter vx_no, w.before args s = true)
    (hU : (Cond.isRef (.static Bundle.tN "UNASSIGNED_STACK" Bundle.steD)).before args s = true) (hN : (Cond.isRef (.static Bundle.tN "SUPPRESSED_SENTINEL" Bundle.listD)).before args s = true)
    (lU : (Cond.laysStatic Bundle.tN "UNASSIGNED_STACK" Bundle.steD).before args s = true) (lN : (Cond.laysStatic Bundle.tN "SUPPRESSED_SENTINEL" Bundle.listD).before args s = true) : ∀ w ∈ L, w.before args s = true := by
  intro w hw
  by_cases e1 : w = .isRef (.static Bundle.tN "UNASSIGNED_STACK" Bundle.steD)
  · rw [e1]; exact hU
  · by_cases e2 : w = .isRef (.static Bundle.tN "SUPPRESSED_SENTINEL" Bundle.listD)
    · rw [e2]; exact hN
    · by_cases e3 : w = .laysStatic Bundle.tN "UNASSIGNED_STACK" Bundle.steD
      · rw [e3]; exact lU
      · by_cases e4 : w = .laysStatic Bundle.tN "SUPPRESSED_SENTINEL" Bundle.listD
        · rw [e4]; exact lN
        · exact h1 w (List.mem_filter.mpr ⟨hw, by unfold vx_no; rw [decide_eq_true e1, decide_eq_true e2, decide_eq_true e3, decide_eq_true e4]; rfl⟩)
/-- where a static field lies, its class's statics cell in H -/
def vx_L (C n d : String) (A : Nat → Prop) (U : State) (H : Heap) : Prop := ∃ (c : ClassId) (k : Class) (i : Nat) (f : Field) (a : Nat) (cell : Cell), U.vm.findClass C = some c ∧ U.fieldFound? C n d = some (c, k, i, f) ∧ f.isStatic = true ∧ k.statics = some a ∧ H[a]? = some cell ∧ cell.vm.isStatics = true ∧ cell.cls = c ∧ f.slot < cell.slots.size ∧ k.staticTypes[f.slot]? = some f.type ∧ ¬ A a
theorem vx_L.moved {C n d : String} {A : Nat → Prop} {u U : State} {H : Heap} (hvm : u.vm.Alike U.vm) (h : vx_L C n d A u H) : vx_L C n d A U H := by
  obtain ⟨c, k, i, f, a, cell, h1, h2, h3, h4, h5, h6, h7, h8, h9, h10⟩ := h
  obtain ⟨k', hi', he⟩ := State.fieldFound?_setVm hvm h2
  exact ⟨c, k', i, f, a, cell, by rw [hvm.findClass]; exact h1, hi', h3, by rw [he]; exact h4, h5, h6, h7, h8, by rw [he]; exact h9, h10⟩
theorem vx_L.kept {C n d : String} {A : Nat → Prop} {U : State} {H H1 : Heap} (h : vx_L C n d A U H) (hq : ∀ a : Nat, a < H.size → ¬ A a → H1[a]? = H[a]?) : vx_L C n d A U H1 := by
  obtain ⟨c, k, i, f, a, cell, h1, h2, h3, h4, h5, h6, h7, h8, h9, h10⟩ := h
  exact ⟨c, k, i, f, a, cell, h1, h2, h3, h4, by rw [hq a (Array.getElem?_eq_some_iff.mp h5).1 h10]; exact h5, h6, h7, h8, h9, h10⟩
theorem vx_L.narrow {C n d : String} {A B : Nat → Prop} {U : State} {H : Heap} (h : vx_L C n d A U H) (hAB : ∀ q, B q → A q) : vx_L C n d B U H := by
  obtain ⟨c, k, i, f, a, cell, h1, h2, h3, h4, h5, h6, h7, h8, h9, h10⟩ := h
  exact ⟨c, k, i, f, a, cell, h1, h2, h3, h4, h5, h6, h7, h8, h9, fun z => h10 (hAB _ z)⟩
theorem vx_L.word {C n d : String} {A : Nat → Prop} {s : State} {args : Array Value} (h : vx_L C n d A s s.heap) : (Cond.laysStatic C n d).before args s = true := by
  obtain ⟨c, k, i, f, a, cell, h1, h2, h3, h4, h5, h6, h7, h8, h9, -⟩ := h
  show (Cond.laysStatic C n d).holds args s none s [] = true
  exact Cond.laysStatic_of h1 h2 h3 h4 h5 h6 h7 h8 h9
/-- .. and what it holds: null or some reference -/
def vx_Zq (C n d : String) (A : Nat → Prop) (U : State) (H : Heap) : Prop := va_Zq C n d A U H ∧ vx_L C n d A U H
theorem vx_Zq.moved {C n d : String} {A : Nat → Prop} {u U : State} {H : Heap} (hvm : u.vm.Alike U.vm) (h : vx_Zq C n d A u H) : vx_Zq C n d A U H := ⟨va_Zq.moved hvm h.1, vx_L.moved hvm h.2⟩
theorem vx_Zq.kept {C n d : String} {A : Nat → Prop} {U : State} {H H1 : Heap} (h : vx_Zq C n d A U H) (hq : ∀ a : Nat, a < H.size → ¬ A a → H1[a]? = H[a]?) : vx_Zq C n d A U H1 := ⟨va_Zq.kept h.1 hq, vx_L.kept h.2 hq⟩
theorem vx_Zq.narrow {C n d : String} {A B : Nat → Prop} {U : State} {H : Heap} (h : vx_Zq C n d A U H) (hAB : ∀ q, B q → A q) : vx_Zq C n d B U H := ⟨va_Zq.narrow h.1 hAB, vx_L.narrow h.2 hAB⟩
theorem vx_Zqof {args : Array Value} {s : State} {C n d : String} {A : Nat → Prop} (hl : (Cond.laysStatic C n d).before args s = true) (hini : (Cond.initialized C).before args s = true) (h : (Cond.isRef (.static C n d)).before args s = true) (hA : ∀ a : Nat, a < s.heap.size → ¬ A a) : vx_Zq C n d A s s.heap := by
  refine ⟨va_Zqof hl hini h hA, ?_⟩
  obtain ⟨c, k, i, f, a, cell, h1, h2, h3, h4, h5, h6, h7, h8, h9⟩ := Cond.laysStatic_spec hl
  exact ⟨c, k, i, f, a, cell, h1, h2, h3, h4, h5, h6, h7, h8, h9, hA a (Array.getElem?_eq_some_iff.mp h5).1⟩
theorem vx_isRef {C n d : String} {v : Value} {A : Nat → Prop} {s : State} {args : Array Value} (h : va_Z C n d v A s s.heap) (hv : v.isRef = true) : (Cond.isRef (.static C n d)).before args s = true := by
  obtain ⟨cf, kf, fi, f, a, cell, h1, h2, h3, h4, h5, h6, h7, -⟩ := h
  have he : (Term.static C n d).eval args s none [] s = some v := by
    simp [Term.eval, State.fieldNamed?, h1, h2, h4, h5, h6, h7]
  simp only [Cond.before, Cond.holds, Cond.value, he]
  cases v <;> simp_all [Value.isRef]
theorem vx_isRefq {C n d : String} {A : Nat → Prop} {s : State} {args : Array Value} (h : va_Zq C n d A s s.heap) : (Cond.isRef (.static C n d)).before args s = true := by
  rcases h with h | ⟨t, h⟩
  · exact vx_isRef h rfl
  · exact vx_isRef h rfl
/-- the same frame, seen from here: as if the method were called anew in this heap -/
theorem vx_rebase {T : State} (X : Stand p l e R s m args below meth c T locs cells slots) {R' : Room} (hf : R'.frames ≤ R.frames) (hl : R'.locals ≤ R.locals) (hc : cells + R'.cells ≤ R.cells) (hs : slots + R'.slots ≤ R.slots) :
    Stand p l e R' ((T.setVm s.vm).setFrames (.invoking m args :: below)) m args below meth c T [] 0 0 := by
  have htop : (T.setVm s.vm).topJava?.isSome := X.here.top
  have hF : ((T.setVm s.vm).setFrames (.invoking m args :: below)).frames = .invoking m args :: below := State.frames_setFrames _ (State.cur_lt_of_top htop)
  obtain ⟨g₀, hg0⟩ := Option.isSome_iff_exists.mp htop
  obtain ⟨r, hr⟩ := State.topJava?_eq_some.mp hg0
  have hl9 : e.platform.stackLimits (T.setVm s.vm).me = e.platform.stackLimits s.me := X.limits
  have hb9 : (T.setVm s.vm).me.stackBytes = s.me.stackBytes := X.bytes
  refine ⟨X.admits, X.cas, X.clock, hF, ?_, X.hears, X.method, X.code, X.here, X.tail, X.warmed, ?_, ?_, ?_⟩
  · have h := X.room
    have hU : ((T.setVm s.vm).setFrames (.invoking m args :: below)).localsInUse = s.localsInUse := by
      rw [State.localsInUse_invoking hF (meth := meth) (c := c) X.method X.code, State.localsInUse_invoking X.frames X.method X.code]
    simp only [State.hasRoom, Bool.and_eq_true, decide_eq_true_eq] at h ⊢
    obtain ⟨⟨⟨⟨h1, h2, h3, h4, h5, h6⟩, h7⟩, h8⟩, h9⟩ := h
    rw [X.frames, List.length_cons] at h2 h3
    have q1 := X.heapSize
    have q2 := X.used
    simp only [hF, hU, List.length_cons, State.stackLimits_setFrames, State.stackBytes_setFrames, hl9, hb9]
    refine ⟨⟨⟨⟨by omega, by omega, by omega, by omega, by omega, h6⟩, ?_⟩, ?_⟩, X.book⟩
    · show T.heap.size + R'.cells ≤ e.platform.maxCells
      omega
    · show T.slotsUsed + R'.slots ≤ e.platform.maxSlots
      omega
  · rw [State.stackLimits_setFrames]; rfl
  · rw [State.stackBytes_setFrames]; rfl
  · refine ⟨?_, Nat.le_refl _, Nat.le_refl _, ?_, ?_, fun a c9 h9 => ⟨c9, h9, rfl, rfl, fun _ _ => rfl⟩⟩
    · obtain ⟨t, ht, -⟩ := State.frames_cons hr
      show T.setVm s.vm = { ((T.setVm s.vm).setFrames (.invoking m args :: below)).setFrames (T.setVm s.vm).frames with heap := T.heap, slotsUsed := T.slotsUsed }
      rw [State.setFrames_setFrames, State.setFrames_self ht]
      rfl
    · show T.slotsUsed = T.slotsUsed + ((T.heap.toList.drop T.heap.size).map (·.slots.size)).sum
      rw [List.drop_eq_nil_of_le (Nat.le_of_eq Array.length_toList)]
      rfl
    · show ((T.heap.toList.drop T.heap.size).map (·.slots.size)).sum ≤ 0
      rw [List.drop_eq_nil_of_le (Nat.le_of_eq Array.length_toList)]
      exact Nat.le_refl _
/-- 'throw new E()': new; dup; invokespecial; athrow -/
theorem vx_throw0 {cc : ByteArray} {pc : Nat} (hexec : p.tables.exec = Jvm.exec) (hb : c.code = cc) (hl : l.stackTraces = false) {own cls : String} {names : List String} {ik ic mc ms : Nat} {A : Nat → Prop}
    (hown : s.vm.findClass own = some m.cls) (hcls : Bundle.fit cls = true) (hnames : ∀ n ∈ names, Bundle.fit n = true)
    (hk : (Cond.classLink own ik cls).before args s = true) (hini : (Cond.initialized cls).before args s = true) (hat : ∀ w ∈ vx_at0 own ic cls names, w.before args s = true)
    (hgood : ∀ w ∈ Cond.classLink own ik cls :: Cond.initialized cls :: vx_at0 own ic cls names, vx_ot w = true)
    (hU : vx_Zq Bundle.tN "UNASSIGNED_STACK" Bundle.steD A s s.heap) (hN : vx_Zq Bundle.tN "SUPPRESSED_SENTINEL" Bundle.listD A s s.heap) (hS : va_S A s.heap H locs) (hsize : ls.size = c.maxLocals)
    (d0 : decode cc pc = .ok (.new ik, 3)) (d3 : decode cc (pc + 3) = .ok (.dup, 1)) (d4 : decode cc (pc + 4) = .ok (.invokespecial ic, 3)) (d7 : decode cc (pc + 7) = .ok (.athrow, 1))
    (hout : ∀ x ∈ c.exceptionTable.toList, covers x (pc + 7) = false)
    (hRframes : names.length + 3 < R.frames) (hRlocals : (rest.map fun v => v.category).sum + (13 * (names.length + 1) + 42) ≤ R.locals) (hRcells : cells + 1 ≤ R.cells) (hRslots : slots + 6 ≤ R.slots) (hlocks : meth.locks = false)
    (hx : ∀ t : State, s.vm.Alike t.vm → H.size ≤ t.heap.size → (∀ q : Nat, q < H.size → t.heap[q]? = H[q]?) → XC cls s t)
    (hf : ∀ z ∈ locs, free z.base) (hc : cells + 1 ≤ mc) (hs : slots + 6 ≤ ms) :
    W p l e R s m args below meth c H locs cells slots (vx_MQ below Qc XC args s mc ms free) (F0 m pc ls rest) := by
  intro T hT X
  have htr : e.platform.stackTraces = false := (show e.platform.stackTraces = l.stackTraces by rw [X.admits.platform]).trans hl
  have Y := vx_rebase X (R' := { frames := R.frames, locals := R.locals, cells := 1, slots := 6 }) (Nat.le_refl _) (Nat.le_refl _) hRcells hRslots
  obtain ⟨s', hA⟩ : ∃ z, z = (T.setVm s.vm).setFrames (.invoking m args :: below) := ⟨_, rfl⟩
  rw [← hA] at Y
  have hvm : s'.vm = s.vm := by rw [hA]; rfl
  have hhp : s'.heap = H := by rw [hA]; exact hT
  have hW0 : s.WarmedH s'.vm := by rw [hvm]; exact State.WarmedH.refl s
  have hat' : ∀ w ∈ vx_at0 own ic cls names, w.before args s' = true := fun w hw => vx_ot_at hW0 hvm.symm (hgood w (List.mem_cons_of_mem _ (List.mem_cons_of_mem _ hw))) (hat w hw)
  have hk' : (Cond.classLink own ik cls).before args s' = true := vx_ot_at hW0 hvm.symm (hgood _ List.mem_cons_self) hk
  have hini' : (Cond.initialized cls).before args s' = true := vx_ot_at hW0 hvm.symm (hgood _ (List.mem_cons_of_mem _ List.mem_cons_self)) hini
  have hU' : vx_Zq Bundle.tN "UNASSIGNED_STACK" Bundle.steD A s' s'.heap := by rw [hhp]; exact vx_Zq.moved hW0.alike (hU.kept hS.2.1)
  have hN' : vx_Zq Bundle.tN "SUPPRESSED_SENTINEL" Bundle.listD A s' s'.heap := by rw [hhp]; exact vx_Zq.moved hW0.alike (hN.kept hS.2.1)
  have h : ∀ w ∈ Bundle.ownAtoms0 own ic cls names, w.before args s' = true := vx_own hat' (vx_isRefq hU'.1) (vx_isRefq hN'.1) hU'.2.word hN'.2.word
  have hown' : s'.vm.findClass own = some m.cls := by rw [hvm]; exact hown
  have hins : (Cond.instantiable cls 6).before args s' = true := h _ (by simp [Bundle.ownAtoms0])
  obtain ⟨vm₁, cX, kX, hfX, hkX, -, -, X₁, st1⟩ := Y.newCold hexec (own := own) (C := cls) (index := ik) (n := 6) hown' hk' hins hini'
    (g := F0 m pc ls rest) rfl (by rw [hb]; exact d0) (Nat.le_refl _) (Nat.le_refl _)
  generalize hT1 : (T.setVm vm₁).pushCell { cls := cX, slots := kX.instanceTypes.map defaultValue, vm := .none } = T1 at X₁ st1
  have hcat : (Value.ref T.heap.size).category = 1 := rfl
  have hcellA : T1.heap[T.heap.size]? = some (freshCell cX kX) := by rw [← hT1]; exact State.heap_pushCell_size _ _
  have d3' : decode c.code (pc + 3) = .ok (.dup, 1) := by rw [hb]; exact d3
  obtain ⟨U, hsteps, hrun, hend, hW, hsame, ce, hce, hO⟩ := X₁.ctorThrow0 hexec htr (own := own) (cls := cls) (names := names) (ic := ic) hown' hcls hnames h (fun x hx => nomatch hx) hfX hkX hcellA (by rw [hhp, hT]; exact Nat.le_refl _)
    (g := { method := m, pc := pc + 4, locals := ls, stack := .ref T.heap.size :: .ref T.heap.size :: rest, locked := none }) rfl hsize rfl rfl (rest := rest) rfl
    (by rw [hb]; exact d4) (by rw [hb]; exact d7) hout hRframes (by simp only [List.map_cons, List.sum_cons, hcat]; omega) hlocks
  obtain ⟨f1, f2⟩ := vx_frame hsame
  rw [hhp] at f1 f2
  have hWs : s.WarmedH U.vm := State.WarmedH.trans hW0 hW
  have hcl : s.vm.findClass cls = some ce.cls := by
    have h9 := hO.cls
    rw [hvm] at h9
    exact h9
  have hall : s.sameButNew ({ U with vm := s.vm } : State) locs mc ms := by
    subst hA
    obtain ⟨e1, e2⟩ := hsame
    rw [State.setFrames_setFrames] at e1
    have h2 : (T.setVm s.vm).sameButNew ({ U with vm := s.vm } : State) [] (0 + 1) (0 + 6) := ⟨e1, e2⟩
    have h3 := X.same.trans h2
    rw [List.append_nil] at h3
    exact h3.mono hc hs
  refine ⟨U, ?_, .threw T.heap.size, hrun, hend, Or.inr ⟨T.heap.size, rfl, cls, ce, locs, hx U hWs.alike f1 (fun q hq => f2 q hq (fun z hz => nomatch hz)), hce, hO.vm, hcl, hWs, hall, hf⟩⟩
  refine st1 _ ?_
  show Steps p.tables e below (T1.setTop { method := m, pc := pc + 3, locals := ls, stack := .ref T.heap.size :: rest, locked := none }) _
  jvm_step X₁.here [X₁.here.top, hexec, d3', Value.category]
  exact hsteps
/-- 'throw new E("text")': new; dup; ldc; invokespecial; athrow -/
theorem vx_throwS {cc : ByteArray} {pc : Nat} (hexec : p.tables.exec = Jvm.exec) (hb : c.code = cc) (hl : l.stackTraces = false) {own cls text : String} {names : List String} {ik is ic mc ms sa : Nat} {A : Nat → Prop}
    (hown : s.vm.findClass own = some m.cls) (hcls : Bundle.fit cls = true) (hnames : ∀ n ∈ names, Bundle.fit n = true)
    (hk : (Cond.classLink own ik cls).before args s = true) (hini : (Cond.initialized cls).before args s = true) (hstr : vk_R own is text sa s) (hat : ∀ w ∈ vx_atS own ic cls names, w.before args s = true)
    (hgood : ∀ w ∈ Cond.classLink own ik cls :: Cond.initialized cls :: vx_atS own ic cls names, vx_ot w = true)
    (hU : vx_Zq Bundle.tN "UNASSIGNED_STACK" Bundle.steD A s s.heap) (hN : vx_Zq Bundle.tN "SUPPRESSED_SENTINEL" Bundle.listD A s s.heap) (hS : va_S A s.heap H locs) (hsize : ls.size = c.maxLocals)
    (d0 : decode cc pc = .ok (.new ik, 3)) (d3 : decode cc (pc + 3) = .ok (.dup, 1)) (d4 : decode cc (pc + 4) = .ok (.ldc is, 2)) (d6 : decode cc (pc + 6) = .ok (.invokespecial ic, 3)) (d9 : decode cc (pc + 9) = .ok (.athrow, 1))
    (hout : ∀ x ∈ c.exceptionTable.toList, covers x (pc + 9) = false)
    (hRframes : names.length + 3 < R.frames) (hRlocals : (rest.map fun v => v.category).sum + (13 * (names.length + 1) + 43) ≤ R.locals) (hRcells : cells + 1 ≤ R.cells) (hRslots : slots + 6 ≤ R.slots) (hlocks : meth.locks = false)
    (hx : ∀ t : State, s.vm.Alike t.vm → H.size ≤ t.heap.size → (∀ q : Nat, q < H.size → t.heap[q]? = H[q]?) → XC cls s t)
    (hf : ∀ z ∈ locs, free z.base) (hc : cells + 1 ≤ mc) (hs : slots + 6 ≤ ms) :
    W p l e R s m args below meth c H locs cells slots (vx_MQ below Qc XC args s mc ms free) (F0 m pc ls rest) := by
  intro T hT X
  have htr : e.platform.stackTraces = false := (show e.platform.stackTraces = l.stackTraces by rw [X.admits.platform]).trans hl
  have Y := vx_rebase X (R' := { frames := R.frames, locals := R.locals, cells := 1, slots := 6 }) (Nat.le_refl _) (Nat.le_refl _) hRcells hRslots
  obtain ⟨s', hA⟩ : ∃ z, z = (T.setVm s.vm).setFrames (.invoking m args :: below) := ⟨_, rfl⟩
  rw [← hA] at Y
  have hvm : s'.vm = s.vm := by rw [hA]; rfl
  have hhp : s'.heap = H := by rw [hA]; exact hT
  have hW0 : s.WarmedH s'.vm := by rw [hvm]; exact State.WarmedH.refl s
  have hat' : ∀ w ∈ vx_atS own ic cls names, w.before args s' = true := fun w hw => vx_ot_at hW0 hvm.symm (hgood w (List.mem_cons_of_mem _ (List.mem_cons_of_mem _ hw))) (hat w hw)
  have hk' : (Cond.classLink own ik cls).before args s' = true := vx_ot_at hW0 hvm.symm (hgood _ List.mem_cons_self) hk
  have hini' : (Cond.initialized cls).before args s' = true := vx_ot_at hW0 hvm.symm (hgood _ (List.mem_cons_of_mem _ List.mem_cons_self)) hini
  have hU' : vx_Zq Bundle.tN "UNASSIGNED_STACK" Bundle.steD A s' s'.heap := by rw [hhp]; exact vx_Zq.moved hW0.alike (hU.kept hS.2.1)
  have hN' : vx_Zq Bundle.tN "SUPPRESSED_SENTINEL" Bundle.listD A s' s'.heap := by rw [hhp]; exact vx_Zq.moved hW0.alike (hN.kept hS.2.1)
  have h : ∀ w ∈ Bundle.ownAtoms own ic cls names, w.before args s' = true := vx_own hat' (vx_isRefq hU'.1) (vx_isRefq hN'.1) hU'.2.word hN'.2.word
  have hown' : s'.vm.findClass own = some m.cls := by rw [hvm]; exact hown
  have hins : (Cond.instantiable cls 6).before args s' = true := h _ (by simp [Bundle.ownAtoms])
  obtain ⟨vm₁, cX, kX, hfX, hkX, -, -, X₁, st1⟩ := Y.newCold hexec (own := own) (C := cls) (index := ik) (n := 6) hown' hk' hins hini'
    (g := F0 m pc ls rest) rfl (by rw [hb]; exact d0) (Nat.le_refl _) (Nat.le_refl _)
  generalize hT1 : (T.setVm vm₁).pushCell { cls := cX, slots := kX.instanceTypes.map defaultValue, vm := .none } = T1 at X₁ st1
  have hcat : (Value.ref T.heap.size).category = 1 := rfl
  have hcellA : T1.heap[T.heap.size]? = some (freshCell cX kX) := by rw [← hT1]; exact State.heap_pushCell_size _ _
  have d3' : decode c.code (pc + 3) = .ok (.dup, 1) := by rw [hb]; exact d3
  have d4' : decode c.code (pc + 4) = .ok (.ldc is, 2) := by rw [hb]; exact d4
  have hstr' : vk_R own is text sa s' := vk_R.warm hW0 hstr
  obtain ⟨U, hsteps, hrun, hend, hW, hsame, ce, hce, hO⟩ := X₁.ctorThrowS hexec htr (own := own) (cls := cls) (names := names) (ic := ic) hown' hcls hnames h (fun x hx => nomatch hx) hfX hkX hcellA (by rw [hhp, hT]; exact Nat.le_refl _) (msg := .ref sa) rfl
    (g := { method := m, pc := pc + 6, locals := ls, stack := .ref sa :: .ref T.heap.size :: .ref T.heap.size :: rest, locked := none }) rfl hsize rfl rfl (rest := rest) rfl
    (by rw [hb]; exact d6) (by rw [hb]; exact d9) hout hRframes (by simp only [List.map_cons, List.sum_cons, hcat]; omega) hlocks
  obtain ⟨f1, f2⟩ := vx_frame hsame
  rw [hhp] at f1 f2
  have hWs : s.WarmedH U.vm := State.WarmedH.trans hW0 hW
  have hcl : s.vm.findClass cls = some ce.cls := by
    have h9 := hO.cls
    rw [hvm] at h9
    exact h9
  have hall : s.sameButNew ({ U with vm := s.vm } : State) locs mc ms := by
    subst hA
    obtain ⟨e1, e2⟩ := hsame
    rw [State.setFrames_setFrames] at e1
    have h2 : (T.setVm s.vm).sameButNew ({ U with vm := s.vm } : State) [] (0 + 1) (0 + 6) := ⟨e1, e2⟩
    have h3 := X.same.trans h2
    rw [List.append_nil] at h3
    exact h3.mono hc hs
  refine ⟨U, ?_, .threw T.heap.size, hrun, hend, Or.inr ⟨T.heap.size, rfl, cls, ce, locs, hx U hWs.alike f1 (fun q hq => f2 q hq (fun z hz => nomatch hz)), hce, hO.vm, hcl, hWs, hall, hf⟩⟩
  refine st1 _ ?_
  show Steps p.tables e below (T1.setTop { method := m, pc := pc + 3, locals := ls, stack := .ref T.heap.size :: rest, locked := none }) _
  jvm_step X₁.here [X₁.here.top, hexec, d3', Value.category]
  exact X₁.ldcString hexec (own := own) (text := text) (index := is) (a := sa) hown' hstr'.1 hstr'.2
    (g := { method := m, pc := pc + 4, locals := ls, stack := .ref T.heap.size :: .ref T.heap.size :: rest, locked := none }) rfl d4' _ hsteps
/-- 'throw new E("text")', the text by a wide index -/
theorem vx_throwSW {cc : ByteArray} {pc : Nat} (hexec : p.tables.exec = Jvm.exec) (hb : c.code = cc) (hl : l.stackTraces = false) {own cls text : String} {names : List String} {ik is ic mc ms sa : Nat} {A : Nat → Prop}
    (hown : s.vm.findClass own = some m.cls) (hcls : Bundle.fit cls = true) (hnames : ∀ n ∈ names, Bundle.fit n = true)
    (hk : (Cond.classLink own ik cls).before args s = true) (hini : (Cond.initialized cls).before args s = true) (hstr : vk_R own is text sa s) (hat : ∀ w ∈ vx_atS own ic cls names, w.before args s = true)
    (hgood : ∀ w ∈ Cond.classLink own ik cls :: Cond.initialized cls :: vx_atS own ic cls names, vx_ot w = true)
    (hU : vx_Zq Bundle.tN "UNASSIGNED_STACK" Bundle.steD A s s.heap) (hN : vx_Zq Bundle.tN "SUPPRESSED_SENTINEL" Bundle.listD A s s.heap) (hS : va_S A s.heap H locs) (hsize : ls.size = c.maxLocals)
    (d0 : decode cc pc = .ok (.new ik, 3)) (d3 : decode cc (pc + 3) = .ok (.dup, 1)) (d4 : decode cc (pc + 4) = .ok (.ldc_w is, 3)) (d7 : decode cc (pc + 7) = .ok (.invokespecial ic, 3)) (d10 : decode cc (pc + 10) = .ok (.athrow, 1))
    (hout : ∀ x ∈ c.exceptionTable.toList, covers x (pc + 10) = false)
    (hRframes : names.length + 3 < R.frames) (hRlocals : (rest.map fun v => v.category).sum + (13 * (names.length + 1) + 43) ≤ R.locals) (hRcells : cells + 1 ≤ R.cells) (hRslots : slots + 6 ≤ R.slots) (hlocks : meth.locks = false)
    (hx : ∀ t : State, s.vm.Alike t.vm → H.size ≤ t.heap.size → (∀ q : Nat, q < H.size → t.heap[q]? = H[q]?) → XC cls s t)
    (hf : ∀ z ∈ locs, free z.base) (hc : cells + 1 ≤ mc) (hs : slots + 6 ≤ ms) :
    W p l e R s m args below meth c H locs cells slots (vx_MQ below Qc XC args s mc ms free) (F0 m pc ls rest) := by
  intro T hT X
  have htr : e.platform.stackTraces = false := (show e.platform.stackTraces = l.stackTraces by rw [X.admits.platform]).trans hl
  have Y := vx_rebase X (R' := { frames := R.frames, locals := R.locals, cells := 1, slots := 6 }) (Nat.le_refl _) (Nat.le_refl _) hRcells hRslots
  obtain ⟨s', hA⟩ : ∃ z, z = (T.setVm s.vm).setFrames (.invoking m args :: below) := ⟨_, rfl⟩
  rw [← hA] at Y
  have hvm : s'.vm = s.vm := by rw [hA]; rfl
  have hhp : s'.heap = H := by rw [hA]; exact hT
  have hW0 : s.WarmedH s'.vm := by rw [hvm]; exact State.WarmedH.refl s
  have hat' : ∀ w ∈ vx_atS own ic cls names, w.before args s' = true := fun w hw => vx_ot_at hW0 hvm.symm (hgood w (List.mem_cons_of_mem _ (List.mem_cons_of_mem _ hw))) (hat w hw)
  have hk' : (Cond.classLink own ik cls).before args s' = true := vx_ot_at hW0 hvm.symm (hgood _ List.mem_cons_self) hk
  have hini' : (Cond.initialized cls).before args s' = true := vx_ot_at hW0 hvm.symm (hgood _ (List.mem_cons_of_mem _ List.mem_cons_self)) hini
  have hU' : vx_Zq Bundle.tN "UNASSIGNED_STACK" Bundle.steD A s' s'.heap := by rw [hhp]; exact vx_Zq.moved hW0.alike (hU.kept hS.2.1)
  have hN' : vx_Zq Bundle.tN "SUPPRESSED_SENTINEL" Bundle.listD A s' s'.heap := by rw [hhp]; exact vx_Zq.moved hW0.alike (hN.kept hS.2.1)
  have h : ∀ w ∈ Bundle.ownAtoms own ic cls names, w.before args s' = true := vx_own hat' (vx_isRefq hU'.1) (vx_isRefq hN'.1) hU'.2.word hN'.2.word
  have hown' : s'.vm.findClass own = some m.cls := by rw [hvm]; exact hown
  have hins : (Cond.instantiable cls 6).before args s' = true := h _ (by simp [Bundle.ownAtoms])
  obtain ⟨vm₁, cX, kX, hfX, hkX, -, -, X₁, st1⟩ := Y.newCold hexec (own := own) (C := cls) (index := ik) (n := 6) hown' hk' hins hini'
    (g := F0 m pc ls rest) rfl (by rw [hb]; exact d0) (Nat.le_refl _) (Nat.le_refl _)
  generalize hT1 : (T.setVm vm₁).pushCell { cls := cX, slots := kX.instanceTypes.map defaultValue, vm := .none } = T1 at X₁ st1
  have hcat : (Value.ref T.heap.size).category = 1 := rfl
  have hcellA : T1.heap[T.heap.size]? = some (freshCell cX kX) := by rw [← hT1]; exact State.heap_pushCell_size _ _
  have d3' : decode c.code (pc + 3) = .ok (.dup, 1) := by rw [hb]; exact d3
  have d4' : decode c.code (pc + 4) = .ok (.ldc_w is, 3) := by rw [hb]; exact d4
  have hstr' : vk_R own is text sa s' := vk_R.warm hW0 hstr
  obtain ⟨U, hsteps, hrun, hend, hW, hsame, ce, hce, hO⟩ := X₁.ctorThrowS hexec htr (own := own) (cls := cls) (names := names) (ic := ic) hown' hcls hnames h (fun x hx => nomatch hx) hfX hkX hcellA (by rw [hhp, hT]; exact Nat.le_refl _) (msg := .ref sa) rfl
    (g := { method := m, pc := pc + 7, locals := ls, stack := .ref sa :: .ref T.heap.size :: .ref T.heap.size :: rest, locked := none }) rfl hsize rfl rfl (rest := rest) rfl
    (by rw [hb]; exact d7) (by rw [hb]; exact d10) hout hRframes (by simp only [List.map_cons, List.sum_cons, hcat]; omega) hlocks
  obtain ⟨f1, f2⟩ := vx_frame hsame
  rw [hhp] at f1 f2
  have hWs : s.WarmedH U.vm := State.WarmedH.trans hW0 hW
  have hcl : s.vm.findClass cls = some ce.cls := by
    have h9 := hO.cls
    rw [hvm] at h9
    exact h9
  have hall : s.sameButNew ({ U with vm := s.vm } : State) locs mc ms := by
    subst hA
    obtain ⟨e1, e2⟩ := hsame
    rw [State.setFrames_setFrames] at e1
    have h2 : (T.setVm s.vm).sameButNew ({ U with vm := s.vm } : State) [] (0 + 1) (0 + 6) := ⟨e1, e2⟩
    have h3 := X.same.trans h2
    rw [List.append_nil] at h3
    exact h3.mono hc hs
  refine ⟨U, ?_, .threw T.heap.size, hrun, hend, Or.inr ⟨T.heap.size, rfl, cls, ce, locs, hx U hWs.alike f1 (fun q hq => f2 q hq (fun z hz => nomatch hz)), hce, hO.vm, hcl, hWs, hall, hf⟩⟩
  refine st1 _ ?_
  show Steps p.tables e below (T1.setTop { method := m, pc := pc + 3, locals := ls, stack := .ref T.heap.size :: rest, locked := none }) _
  jvm_step X₁.here [X₁.here.top, hexec, d3', Value.category]
  exact X₁.ldcStringW hexec (own := own) (text := text) (index := is) (a := sa) hown' hstr'.1 hstr'.2
    (g := { method := m, pc := pc + 4, locals := ls, stack := .ref T.heap.size :: .ref T.heap.size :: rest, locked := none }) rfl d4' _ hsteps
end Ends
section Bodies
variable {l : Launch}
theorem vx_ofW {y : MethodName} {ws ws' : List Cond} {rm : Room} {Pc : Array Value → State → Prop} {Qc : Array Value → State → Outcome → State → Prop} {XC : String → State → State → Prop} {mc ms : Nat} {free : Addr → Prop} {cc : ByteArray} {maxL : Nat} {ret : Option FieldType}
    (hy : plainName y.cls = true) (hw : ws = Cond.code y cc maxL ret :: ws')
    (body : ∀ p e s m args below meth c s₁, BodyLoose p l y (headSpec ws rm) cc maxL ret e s m args below meth c s₁ → c.maxLocals = maxL → (∀ x ∈ c.exceptionTable.toList, False) → Pc args s →
      W p l e (headSpec ws rm).room s m args below meth c s.heap [] 0 0 (vx_MQ below Qc XC args s mc ms free) (entryFrame m args maxL)) : vx_Met l y ws rm Pc Qc XC mc ms free := by
  refine MetFree.of_bodyS (code := cc) (maxLocals := maxL) (ret := ret) hy ?_ ?_
  · intro args s m h hn
    obtain ⟨meth, c, h1, h2, h3, h4, h5, h6, -, -⟩ := Cond.code_spec hn (atoms_spec (ws := ws) h _ (by rw [hw]; exact List.mem_cons_self))
    exact ⟨meth, c, h1, h2, h3, h4, h5, h6⟩
  · intro p e s m args below meth c s₁ B hml hP _
    have hh0 : s₁.heap = s.heap := by rw [B.state]; rfl
    have ht : ∀ x ∈ c.exceptionTable.toList, False := by
      obtain ⟨meth9, c9, h1, h2, -, -, -, -, h7, -⟩ := Cond.code_spec B.named (atoms_spec (ws := ws) B.pre _ (by rw [hw]; exact List.mem_cons_self))
      cases Option.some.inj (h1.symm.trans B.method)
      cases Option.some.inj (h2.symm.trans (Stand.of_body B).code)
      intro x hx
      rw [Array.isEmpty_iff.mp h7] at hx
      cases hx
    obtain ⟨t, a1, o, b1, b2, b3⟩ := body p e s m args below meth c s₁ B hml ht hP s₁ hh0 (Stand.of_body B)
    exact ⟨t, o, a1, b1, b2, b3⟩
/-- the table of a body with handlers -/
theorem vx_table {p : Program} {x y : MethodName} {S : Spec} {cc bytes : ByteArray} {maxL maxL' : Nat} {ret ret' : Option FieldType} {e : Env} {s s₁ : State} {m : MethodId} {args : Array Value} {below : List Frame} {meth : Method} {c : Code} {hh : List (Nat × Nat × Nat × Nat)}
    (B : BodyLoose p l y S cc maxL ret e s m args below meth c s₁) (h : (Cond.codeWith y bytes maxL' ret' hh).before args s = true) : c.exceptionTable.toList = tableOf hh := by
  obtain ⟨m9, meth9, c9, hn9, h1, h2, -, -, h6, -⟩ := Cond.codeWith_spec h
  cases Option.some.inj (hn9.symm.trans B.named)
  cases Option.some.inj (h1.symm.trans B.method)
  cases Option.some.inj (h2.symm.trans (Stand.of_body B).code)
  rw [← h6, table_eq]
end Bodies
end VXA
/-! ===== END ===== -/
/-! ===== BEGIN a static call of a method with an exception table ===== -/
section VXS
variable {p : Program} {l : Launch} {e : Env} {R : Room} {s : State} {m : MethodId} {args : Array Value} {below : List Frame} {meth : Method} {c : Code} {T : State} {H : Heap} {locs : List Loc} {cells slots : Nat}
abbrev vx_CSW (R : Room) (s : State) (args : Array Value) (own : String) (index : Nat) (y : MethodName) (bytes : ByteArray) (maxL : Nat) (ret : Option FieldType) (hh : List (Nat × Nat × Nat × Nat)) (ws : List Cond) (rm : Room) (mc ms n : Nat) : Prop :=
  (rm.cells = mc ∧ rm.slots = ms ∧ rm.frames + 1 ≤ R.frames ∧ 8 + (maxL + 11) + rm.locals ≤ R.locals ∧ (∀ w ∈ ws, ∀ (a' : Array Value) (U : State), s.WarmedH U.vm → w.before a' U = true) ∧ Cond.codeWith y bytes maxL ret hh ∈ ws) ∧
  (Cond.codeWith y bytes maxL ret hh).before args s = true ∧ (Cond.initialized y.cls).before args s = true ∧ (y.cls ≠ "java/lang/invoke/MethodHandle" ∧ y.cls ≠ "java/lang/invoke/VarHandle") ∧
  (∀ sig, parseMethodDescriptor y.desc = some sig → n = sig.parameters.length) ∧ (Cond.methodLink own index y).before args s = true ∧ (Cond.static y).before args s = true
theorem vx_cwSW {own : String} {index maxL mc ms : Nat} {y : MethodName} {bytes : ByteArray} {ret : Option FieldType} {hh : List (Nat × Nat × Nat × Nat)} {Ts ws ws' : List Cond} {rm : Room} (n : Nat) (ht : ∀ w ∈ Ts, w.before args s = true) (hT : GoodIn Ts (va_wsS own index y ws)) (hw : ws = Cond.codeWith y bytes maxL ret hh :: ws') (hrc : rm.cells = mc) (hrs : rm.slots = ms)
    (hd : y.cls ≠ "java/lang/invoke/MethodHandle" ∧ y.cls ≠ "java/lang/invoke/VarHandle" ∧ (parseMethodDescriptor y.desc).map (fun d => d.parameters.length) = some n) (hR : rm.frames + 1 ≤ R.frames ∧ 8 + (maxL + 11) + rm.locals ≤ R.locals) :
    vx_CSW R s args own index y bytes maxL ret hh ws rm mc ms n := by
  have ok : ∀ w ∈ va_wsS own index y ws, w.before args s = true := fun w h => ht w (hT w h).1
  have hG : GoodIn Ts ws := fun w h => hT w (by unfold va_wsS; exact List.mem_append_right _ h)
  have hc : Cond.codeWith y bytes maxL ret hh ∈ ws := by rw [hw]; exact List.mem_cons_self
  refine ⟨⟨hrc, hrs, hR.1, hR.2, pay_in ht hG, hc⟩, ht _ (hG _ hc).1, ok _ (by simp [va_wsS]), ⟨hd.1, hd.2.1⟩, fun sig h => ?_, ok _ (by simp [va_wsS]), ok _ (by simp [va_wsS])⟩
  have h2 := hd.2.2
  rw [h] at h2
  exact (Option.some.inj h2).symm
theorem vx_callSW (X : Stand p l e R s m args below meth c T locs cells slots) (hexec : p.tables.exec = Jvm.exec) {own : String} {index : Nat} {y : MethodName} {bytes : ByteArray} {maxL : Nat} {ret : Option FieldType} {hh : List (Nat × Nat × Nat × Nat)}
    (hown : s.vm.findClass own = some m.cls) (hlink : (Cond.methodLink own index y).before args s = true) (hstat : (Cond.static y).before args s = true) (hinit : (Cond.initialized y.cls).before args s = true)
    (hcode : (Cond.codeWith y bytes maxL ret hh).before args s = true) (hy : y.cls ≠ "java/lang/invoke/MethodHandle" ∧ y.cls ≠ "java/lang/invoke/VarHandle")
    {W9 : Nat} {Pre : Pt → Array Value → Prop} {Post : Pt → Array Value → Option Value → Pt → Prop} (hK : Back l R p e below s args y 3 W9 Pre Post)
    {g : JFrame} (hg : g.method = m) (hsize : g.locals.size = c.maxLocals) {argsL rest : List Value} (hlen : ∀ sig, parseMethodDescriptor y.desc = some sig → argsL.length = sig.parameters.length)
    (hstack : g.stack = argsL.reverse ++ rest) (hW : 2 * g.monitorRoom + (rest.map fun v => v.category).sum ≤ W9) (hdg : decode c.code g.pc = .ok (.invokestatic index, 3))
    (hpre : ∀ vm₁, s.WarmedH vm₁ → Pre ⟨T.setVm vm₁, locs, cells, slots⟩ argsL.toArray) :
    ∃ (v : Option Value) (vm₁ : Vm) (B : Pt), s.WarmedH vm₁ ∧ Stand p l e R s m args below meth c B.U B.locs B.cells B.slots ∧ Post ⟨T.setVm vm₁, locs, cells, slots⟩ argsL.toArray v B ∧
      ∀ target, Steps p.tables e below (B.U.setTop { g with pc := g.pc + 3, stack := v.toList ++ rest }) target → Steps p.tables e below (T.setTop g) target := by
  obtain ⟨mk, methM, cM, hnamed, hmethM, -, -, -, -, -, -, hsigM⟩ := Cond.codeWith_spec hcode
  have hstatic : methM.isStatic = true := Cond.static_spec hnamed hmethM hstat
  obtain ⟨kP, hkP, -⟩ := className_of_methodNamed hnamed
  have hinitP : kP.init = .initialized := Cond.initialized_spec (findClass_of_methodNamed hnamed) hkP hinit
  obtain ⟨vm₁, X₁, hstep₁⟩ := X.invokestatic hexec hown hlink hnamed hmethM hstatic hkP hinitP hy (g := g) hg (argsL := argsL) (rest := rest) (hlen _ hsigM) hstack hdg
  obtain ⟨v, B, X', hpost, hsteps⟩ := hK m meth c ⟨T.setVm vm₁, locs, cells, slots⟩ { g with stack := rest } (.invokestatic index) mk argsL.toArray X₁ hg hsize hdg hW (X₁.named hnamed) (hpre vm₁ X₁.warmed)
  exact ⟨v, vm₁, B, X₁.warmed, X', hpost, fun target h => hstep₁ _ fun acts => by rw [doInvoke_state]; exact hsteps.trans h⟩
theorem vx_runSW {y : MethodName} {bytes cc : ByteArray} {maxL nL mc ms n index : Nat} {ret : Option FieldType} {hh : List (Nat × Nat × Nat × Nat)} {ws : List Cond} {rm : Room} {Pc : Array Value → State → Prop} {Qc : Array Value → State → Outcome → State → Prop} {free : Addr → Prop} {Ts : List Cond} {own : String} {As rest : List Value} {g : JFrame}
    (S : CallFix p m c cc nL s args Ts own) (hM : Met l y ws rm Pc Qc mc ms free) (cw : vx_CSW R s args own index y bytes maxL ret hh ws rm mc ms n) (hp : PreS s H Pc As)
    (hg : g.method = m) (hn : As.length = n) (hsize : g.locals.size = nL) (hstack : g.stack = As.reverse ++ rest) (hW : 2 * g.monitorRoom + (rest.map fun v => v.category).sum ≤ 8) (hdg : decode cc g.pc = .ok (.invokestatic index, 3)) (hf : cells + mc ≤ R.cells ∧ slots + ms ≤ R.slots) :
    va_Run p l e R s m args below meth c H locs cells slots mc ms g rest (Qc As.toArray) (free) := by
  obtain ⟨⟨hrc, hrs, hfr, hlo, hws, hcw⟩, hcode, hini, hy, hlen, hl, hstt⟩ := cw
  have hK : Back l R p e below s args y 3 8 (PreOf R mc ms Pc) (PostOf Qc mc ms free) := va_backW (hh := hh) (bytes := bytes) (maxL := maxL) (ret := ret) hM hp.1 hrc hrs hfr hlo hws hcw (fun a' U hW => word_at hW (Or.inl (by first | rfl | simp [Cond.onTables, Cond.keeps, Cond.steady])) hini)
  obtain ⟨hx, hb, hml, ho, -⟩ := S
  intro T hT X
  obtain ⟨v, vm₁, ⟨U', l2, c2, s2⟩, hW₁, X', ⟨g', mk, t, L, e1, e2, hq, h1, hL, h2, h3⟩, st⟩ := vx_callSW X hx (hh := hh) (bytes := bytes) (maxL := maxL) (ret := ret) ho hl hstt hini hcode hy hK hg (hsize.trans hml.symm) (argsL := As) (rest := rest) (fun sig h => hn.trans (hlen sig h)) hstack hW (by rw [hb]; exact hdg)
    (fun vm₁ hW₁ => ⟨hf.1, hf.2, hp.2 (T.setVm vm₁) hT hW₁⟩)
  dsimp only [Pt.U, Pt.locs, Pt.cells, Pt.slots] at X' e1 e2 h1 h2 h3 st
  subst h1; subst h2; subst h3
  exact ⟨v, (T.setVm vm₁).calling g' mk As.toArray, t, U', L, hT, X', hL, e1, e2, hq, st⟩
/-- not caught here, past rows that name other classes: it goes on to the caller -/
theorem vx_outP {p : Program} {l : Launch} {e : Env} {R : Room} {s : State} {m : MethodId} {args : Array Value} {below : List Frame} {meth : Method} {c : Code} {H : Heap} {locs : List Loc} {cells slots : Nat} {free : Addr → Prop} {ls : Array Slot} {rest : List Value} {Qc : Array Value → State → Outcome → State → Prop} {XC : String → State → State → Prop}
    {pc : Nat} {own E : String} {ce : Cell} {q : Addr} {mc ms : Nat} (hown : s.vm.findClass own = some m.cls) (hlocks : meth.locks = false)
    (hpass : ∀ z ∈ c.exceptionTable.toList, covers z pc = false ∨ (z.catchType ≠ 0 ∧ ∃ nm : String, (Cond.classLink own z.catchType nm).before args s = true ∧ va_Nc E nm s)) (hcell : H[q]? = some ce) (hv : ce.vm = .none) (hcl : s.vm.findClass E = some ce.cls)
    (hx : ∀ t : State, t.heap = H → s.vm.Alike t.vm → XC E s t) (hf : ∀ z ∈ locs, free z.base) (hc : cells ≤ mc) (hs : slots ≤ ms) :
    vx_W p l e R s m args below meth c H locs cells slots (vx_MQ below Qc XC args s mc ms free) (F0 m pc ls rest) q := by
  intro T hT X
  have hpl : e.platform.magicAccessors = ({} : Platform).magicAccessors := by rw [X.admits.platform]
  obtain ⟨vm', hW', X', st⟩ := X.outThrough hlocks q (g := F0 m pc ls rest) rfl rfl rfl (cell := ce) (by rw [hT]; exact hcell) (by rw [hv]; rfl)
    (by obtain ⟨k9, h9, -⟩ := Vm.findClass_spec hcl; exact ⟨k9, h9⟩) (fun z hz => by
      rcases hpass z hz with h | ⟨hz0, nm, hl1, hn1⟩
      · exact Or.inl h
      · obtain ⟨c6, hc6, hcl6⟩ := Cond.classLink_spec hown hl1 e.platform hpl
        obtain ⟨a8, b8, h1, h2, h3⟩ := hn1
        cases Option.some.inj (h1.symm.trans hcl)
        cases Option.some.inj (h2.symm.trans hc6)
        exact Or.inr ⟨hz0, _, hcl6, h3⟩)
  obtain ⟨g₀, hfr⟩ := X'.frames_eq
  have hcell9 : ((T.setVm vm').setFrames (.throwing q :: below)).heap[q]? = some ce := by
    show T.heap[q]? = some ce
    rw [hT]; exact hcell
  have hend : Ended ((T.setVm vm').setFrames (.throwing q :: below)) below (.threw q) := State.frames_setFrames _ (State.cur_lt_of_frames hfr)
  refine ⟨(T.setVm vm').setFrames (.throwing q :: below), ?_, .threw q, X'.here.running, hend, Or.inr ⟨q, rfl, E, ce, locs, hx _ hT (X'.ends _).1.alike, hcell9, hv, hcl, (X'.ends _).1, (X'.ends _).2.mono hc hs, hf⟩⟩
  rw [X.pushThrowing_eq]
  exact st
/-- a thing of a world lies in the heap -/
theorem vx_lt {D : va_G} {cl : List vw_C} {ws : va_W} {H1 : Heap} (h : va_P D cl ws H1) {k : Nat} {q : Nat × va_E} (hk : ws[k]? = some q) : q.1 < H1.size := (h k q hk).lt
end VXS
/-! ===== END ===== -/
/-! ===== BEGIN methods with a table of their own: called by a name, returning or throwing ===== -/
section VXH
/-! vx_backW, vx_callVX, vx_callSX, vx_callVW, vx_runVW, vx_runVX, vx_runSX, vx_ofWH follow the same proofs as their sisters above (Free/Laws.lean, Shelf42/LK1.lean); vx_outP calls Shelf42/NT130.lean (outThrough). -/
section
variable {l : Launch} {R : Room} {p : Program} {e : Env} {below : List Frame} {s : State} {sargs : Array Value} {y : MethodName} {len W9 : Nat}
theorem vx_backW {ws : List Cond} {rm : Room} {Pc : Array Value → State → Prop} {Qc : Array Value → State → Outcome → State → Prop} {XC : String → State → State → Prop} {mc ms : Nat} {free : Addr → Prop} {bytes : ByteArray} {maxL : Nat} {ret : Option FieldType} {hh : List (Nat × Nat × Nat × Nat)}
    (hM : vx_Met l y ws rm Pc Qc XC mc ms free) (hblind : FrameBlind Pc) (hrc : rm.cells = mc) (hrs : rm.slots = ms)
    (hframes : rm.frames + 1 ≤ R.frames) (hlocals : W9 + (maxL + 11) + rm.locals ≤ R.locals)
    (hws : ∀ w ∈ ws, ∀ a' U, s.WarmedH U.vm → w.before a' U = true) (hcode : Cond.codeWith y bytes maxL ret hh ∈ ws) (hinit : ∀ a' U, s.WarmedH U.vm → (Cond.initialized y.cls).before a' U = true) :
    vx_Back l R p e below s sargs y len W9 (PreOf R mc ms Pc) (PostOf Qc mc ms free) (vx_Post XC mc ms free) := by
  intro m meth c A g ig mk a X hg hsize hdg hW hn hp
  have h1 : (headSpec ws rm).pre.before a A.U = true := atoms_intro fun w hw => hws w hw _ _ X.warmed
  have h2 : (Cond.codeWith y bytes maxL ret hh).before a A.U = true := hws _ hcode _ _ X.warmed
  have h3 : (Cond.initialized y.cls).before a A.U = true := hinit _ _ X.warmed
  have h4 : A.cells + (headSpec ws rm).room.cells ≤ R.cells := by rw [show (headSpec ws rm).room.cells = mc from hrc]; exact hp.1
  have h5 : A.slots + (headSpec ws rm).room.slots ≤ R.slots := by rw [show (headSpec ws rm).room.slots = ms from hrs]; exact hp.2.1
  have hPc : Pc a (A.U.calling g mk a) := hblind _ _ _ _ hp.2.2
  obtain ⟨U, Ls, c0, s0⟩ := A
  dsimp only [Pt.U, Pt.locs, Pt.cells, Pt.slots] at h1 h2 h3 h4 h5 X hn hPc ⊢
  obtain ⟨m9, methY, cY, hn9, hmY, hcY, -, hlY, -⟩ := Cond.codeWith_spec h2
  cases Option.some.inj (hn9.symm.trans hn)
  obtain ⟨kY, hkY, -⟩ := className_of_methodNamed hn
  have hinitY : kY.init = .initialized := Cond.initialized_spec (findClass_of_methodNamed hn) hkY h3
  have h : At U g.method c below := by rw [hg]; exact X.here
  have hlocals9 : W9 + (maxL + 11) + (headSpec ws rm).room.locals ≤ R.locals := hlocals
  have happ : (headSpec ws rm).appliesLoose y e.platform (U.calling g mk a) = true :=
    Spec.appliesLoose_calling (g := g) h hdg hn hkY hinitY
      (X.room_calling (g := g) (R' := (headSpec ws rm).room) hsize hmY hcY hframes (by rw [hlY]; omega) h4 h5) h1
  obtain ⟨mid, hmid⟩ := h.above
  have hfr : (U.setTop g).frames = (.java g :: mid) ++ below := by rw [State.frames_setTop' g h.top, hmid]; rfl
  obtain ⟨o, s₂, hsteps, -, hend, hq⟩ := Steps.callFree hM p X.admits X.cas X.clock (acts := []) hfr happ hPc trivial
  have hq' : vx_Q Qc XC mc ms free a (U.calling g mk a) o s₂ := hq
  rw [State.frames_setTop' g h.top] at hend
  obtain ⟨g₀, hg0⟩ := Option.isSome_iff_exists.mp h.top
  obtain ⟨r, hr⟩ := State.topJava?_eq_some.mp hg0
  have hr' : (({ U with heap := s₂.heap, slotsUsed := s₂.slotsUsed } : State).setVm s₂.vm).frames = .java g₀ :: r := hr
  rcases hq' with ⟨hqc, L, hfe, hL⟩ | ⟨q, rfl, E, ce, L, hx, hce, hcv, hcl, hW₂, hsm, hL⟩
  · obtain ⟨⟨v, rfl⟩, hW₂, e2, q2, q3, q4, q5, q6⟩ := id hfe
    have e3 : s₂ = ({ (U.calling g mk a).setFrames s₂.frames with heap := s₂.heap, slotsUsed := s₂.slotsUsed } : State).setVm s₂.vm := by
      have : s₂ = ({ s₂ with vm := (U.calling g mk a).vm } : State).setVm s₂.vm := rfl
      rw [e2] at this
      exact this
    obtain ⟨c₂, i₂, len₂, hc₂, hd₂, hf₂⟩ := hend
    have hW' : U.WarmedH s₂.vm := hW₂
    have hcc : c₂ = c := by
      have h1 : s₂.code? g.method = U.code? g.method := by
        rw [State.code?_eq, State.code?_eq, hW'.alike.method?]
      exact Option.some.inj (hc₂.symm.trans (h1.trans h.code))
    subst hcc
    have hlen : len₂ = len := by rw [hdg] at hd₂; cases hd₂; rfl
    subst hlen
    have hs₂ : s₂ = (({ U with heap := s₂.heap, slotsUsed := s₂.slotsUsed } : State).setVm s₂.vm).setTop { g with pc := g.pc + len₂, stack := v.toList ++ g.stack } := by
      refine e3.trans ?_
      rw [hf₂, State.calling_eq h.top, State.setFrames_setFrames, State.setTop_of_frames _ hr', hr]
      rfl
    have hsame : U.sameButNew ({ U with heap := s₂.heap, slotsUsed := s₂.slotsUsed } : State) L mc ms := by
      refine ⟨?_, q2, q3, q4, q5, q6⟩
      obtain ⟨t, ht, -⟩ := State.frames_cons hr
      show ({ U with heap := s₂.heap, slotsUsed := s₂.slotsUsed } : State) = { U.setFrames U.frames with heap := s₂.heap, slotsUsed := s₂.slotsUsed }
      rw [State.setFrames_self ht]
    subst hg
    refine Or.inl ⟨v, ⟨(({ U with heap := s₂.heap, slotsUsed := s₂.slotsUsed } : State).setVm s₂.vm), Ls ++ L, c0 + mc, s0 + ms⟩,
      ⟨X.admits, X.cas, X.clock, X.frames, X.room, X.hears, X.method, X.code, (X.here.setHeapUsed s₂.heap s₂.slotsUsed).setVm hW'.alike, X.tail, State.WarmedH.trans X.warmed hW', X.limits, X.bytes, X.same.trans (hsame.setVm s.vm)⟩,
      ⟨g, mk, s₂, L, rfl, rfl, hqc, rfl, hL, rfl, rfl⟩, ?_⟩
    show Steps p.tables e below _ ((({ U with heap := s₂.heap, slotsUsed := s₂.slotsUsed } : State).setVm s₂.vm).setTop { g with pc := g.pc + len₂, stack := v.toList ++ g.stack })
    rw [← hs₂]
    exact hsteps
  · obtain ⟨e2, q2, q3, q4, q5, q6⟩ := id hsm
    have e3 : s₂ = ({ (U.calling g mk a).setFrames s₂.frames with heap := s₂.heap, slotsUsed := s₂.slotsUsed } : State).setVm s₂.vm := by
      have : s₂ = ({ s₂ with vm := (U.calling g mk a).vm } : State).setVm s₂.vm := rfl
      rw [e2] at this
      exact this
    have hf₂ : s₂.frames = .throwing q :: .java g :: U.frames.tail := hend
    have hW' : U.WarmedH s₂.vm := hW₂
    have hs₂ : s₂ = ((({ U with heap := s₂.heap, slotsUsed := s₂.slotsUsed } : State).setVm s₂.vm).setTop g).pushFrame (.throwing q) := by
      refine e3.trans ?_
      rw [hf₂, State.calling_eq h.top, State.setFrames_setFrames, State.pushFrame, State.frames_setTop _ hr', State.setTop_of_frames _ hr', State.setFrames_setFrames, hr]
      rfl
    have hsame : U.sameButNew ({ U with heap := s₂.heap, slotsUsed := s₂.slotsUsed } : State) L mc ms := by
      refine ⟨?_, q2, q3, q4, q5, q6⟩
      obtain ⟨t, ht, -⟩ := State.frames_cons hr
      show ({ U with heap := s₂.heap, slotsUsed := s₂.slotsUsed } : State) = { U.setFrames U.frames with heap := s₂.heap, slotsUsed := s₂.slotsUsed }
      rw [State.setFrames_self ht]
    subst hg
    refine Or.inr ⟨q, ⟨(({ U with heap := s₂.heap, slotsUsed := s₂.slotsUsed } : State).setVm s₂.vm), Ls ++ L, c0 + mc, s0 + ms⟩,
      ⟨X.admits, X.cas, X.clock, X.frames, X.room, X.hears, X.method, X.code, (X.here.setHeapUsed s₂.heap s₂.slotsUsed).setVm hW'.alike, X.tail, State.WarmedH.trans X.warmed hW', X.limits, X.bytes, X.same.trans (hsame.setVm s.vm)⟩,
      ⟨g, mk, s₂, L, E, ce, rfl, rfl, hx, hce, hcv, hcl, rfl, hL, rfl, rfl⟩, ?_⟩
    show Steps p.tables e below _ (((({ U with heap := s₂.heap, slotsUsed := s₂.slotsUsed } : State).setVm s₂.vm).setTop g).pushFrame (.throwing q))
    rw [← hs₂]
    exact hsteps
end
variable {p : Program} {l : Launch} {e : Env} {R : Room} {s : State} {m : MethodId} {args : Array Value} {below : List Frame} {meth : Method} {c : Code} {T : State} {H : Heap} {locs : List Loc} {cells slots : Nat}
theorem vx_callVX (X : Stand p l e R s m args below meth c T locs cells slots) (hexec : p.tables.exec = Jvm.exec) {own C : String} {index : Nat} {y : MethodName} {bytes : ByteArray} {maxL : Nat} {ret : Option FieldType} {hh : List (Nat × Nat × Nat × Nat)}
    (hown : s.vm.findClass own = some m.cls) (hlink : (Cond.methodLink own index y).before args s = true) (hinst : (Cond.instanceMethod y).before args s = true) (hsel : (Cond.selects C y y).before args s = true)
    (hcode : (Cond.codeWith y bytes maxL ret hh).before args s = true) (hy : y.cls ≠ "java/lang/invoke/MethodHandle" ∧ y.cls ≠ "java/lang/invoke/VarHandle")
    {W9 : Nat} {Pre : Pt → Array Value → Prop} {Post : Pt → Array Value → Option Value → Pt → Prop} {PostX : Pt → Array Value → Addr → Pt → Prop} (hK : vx_Back l R p e below s args y 3 W9 Pre Post PostX)
    {b : Addr} {cellB : Cell} (hcell : T.heap[b]? = some cellB) (hobj : cellB.vm.isStatics = false) (hcls : s.vm.findClass C = some cellB.cls)
    {g : JFrame} (hg : g.method = m) (hsize : g.locals.size = c.maxLocals) {argsL rest : List Value} (hlen : ∀ sig, parseMethodDescriptor y.desc = some sig → argsL.length = sig.parameters.length)
    (hstack : g.stack = argsL.reverse ++ .ref b :: rest) (hW : 2 * g.monitorRoom + (rest.map fun v => v.category).sum ≤ W9) (hdg : decode c.code g.pc = .ok (.invokevirtual index, 3))
    (hpre : ∀ vm₁, s.WarmedH vm₁ → Pre ⟨T.setVm vm₁, locs, cells, slots⟩ (Value.ref b :: argsL).toArray) :
    (∃ (v : Option Value) (vm₁ : Vm) (B : Pt), s.WarmedH vm₁ ∧ Stand p l e R s m args below meth c B.U B.locs B.cells B.slots ∧ Post ⟨T.setVm vm₁, locs, cells, slots⟩ (Value.ref b :: argsL).toArray v B ∧
      ∀ target, Steps p.tables e below (B.U.setTop { g with pc := g.pc + 3, stack := v.toList ++ rest }) target → Steps p.tables e below (T.setTop g) target) ∨
    (∃ (q : Addr) (vm₁ : Vm) (B : Pt), s.WarmedH vm₁ ∧ Stand p l e R s m args below meth c B.U B.locs B.cells B.slots ∧ PostX ⟨T.setVm vm₁, locs, cells, slots⟩ (Value.ref b :: argsL).toArray q B ∧
      Steps p.tables e below (T.setTop g) ((B.U.setTop { g with stack := rest }).pushFrame (.throwing q))) := by
  obtain ⟨mk, methM, hnamed, hmethM, hstM, habM⟩ := Cond.instanceMethod_spec hinst
  obtain ⟨m8, methM', cM, hn8, hmethM', -, -, -, -, -, -, hsigM⟩ := Cond.codeWith_spec hcode
  cases Option.some.inj (hn8.symm.trans hnamed)
  cases hmethM.symm.trans hmethM'
  obtain ⟨c2, r2, m2, q1, q2, q3, q4, kP, hkP, hkPi⟩ := Cond.selects_spec hsel
  cases hcls.symm.trans q1
  cases (State.methodFound?_of_named hnamed hy).symm.trans q2
  cases hnamed.symm.trans q3
  have hselP : selectMethod e.platform s.vm cellB.cls mk = .method mk := by rw [Launch.admits_selectMethod X.admits]; exact q4
  obtain ⟨vm₁, X₁, hstep₁⟩ := X.invokevirtual hexec hown hlink hnamed hmethM hstM hkP hkPi hy (a := b) (cell := cellB) hcell
    (fun z h => by rw [h] at hobj; cases hobj) hselP hmethM habM hkP hkPi (g := g) hg (argsL := argsL) (rest := rest) (hlen _ hsigM) hstack hdg
  rcases hK m meth c ⟨T.setVm vm₁, locs, cells, slots⟩ { g with stack := rest } (.invokevirtual index) mk (Value.ref b :: argsL).toArray X₁ hg hsize hdg hW (X₁.named hnamed) (hpre vm₁ X₁.warmed) with ⟨v, B, X', hpost, hsteps⟩ | ⟨q, B, X', hpost, hsteps⟩
  · exact Or.inl ⟨v, vm₁, B, X₁.warmed, X', hpost, fun target h => hstep₁ _ fun acts => by rw [doInvoke_state]; exact hsteps.trans h⟩
  · exact Or.inr ⟨q, vm₁, B, X₁.warmed, X', hpost, hstep₁ _ fun acts => by rw [doInvoke_state]; exact hsteps⟩
theorem vx_callSX (X : Stand p l e R s m args below meth c T locs cells slots) (hexec : p.tables.exec = Jvm.exec) {own : String} {index : Nat} {y : MethodName} {bytes : ByteArray} {maxL : Nat} {ret : Option FieldType} {hh : List (Nat × Nat × Nat × Nat)}
    (hown : s.vm.findClass own = some m.cls) (hlink : (Cond.methodLink own index y).before args s = true) (hstat : (Cond.static y).before args s = true) (hinit : (Cond.initialized y.cls).before args s = true)
    (hcode : (Cond.codeWith y bytes maxL ret hh).before args s = true) (hy : y.cls ≠ "java/lang/invoke/MethodHandle" ∧ y.cls ≠ "java/lang/invoke/VarHandle")
    {W9 : Nat} {Pre : Pt → Array Value → Prop} {Post : Pt → Array Value → Option Value → Pt → Prop} {PostX : Pt → Array Value → Addr → Pt → Prop} (hK : vx_Back l R p e below s args y 3 W9 Pre Post PostX)
    {g : JFrame} (hg : g.method = m) (hsize : g.locals.size = c.maxLocals) {argsL rest : List Value} (hlen : ∀ sig, parseMethodDescriptor y.desc = some sig → argsL.length = sig.parameters.length)
    (hstack : g.stack = argsL.reverse ++ rest) (hW : 2 * g.monitorRoom + (rest.map fun v => v.category).sum ≤ W9) (hdg : decode c.code g.pc = .ok (.invokestatic index, 3))
    (hpre : ∀ vm₁, s.WarmedH vm₁ → Pre ⟨T.setVm vm₁, locs, cells, slots⟩ argsL.toArray) :
    (∃ (v : Option Value) (vm₁ : Vm) (B : Pt), s.WarmedH vm₁ ∧ Stand p l e R s m args below meth c B.U B.locs B.cells B.slots ∧ Post ⟨T.setVm vm₁, locs, cells, slots⟩ argsL.toArray v B ∧
      ∀ target, Steps p.tables e below (B.U.setTop { g with pc := g.pc + 3, stack := v.toList ++ rest }) target → Steps p.tables e below (T.setTop g) target) ∨
    (∃ (q : Addr) (vm₁ : Vm) (B : Pt), s.WarmedH vm₁ ∧ Stand p l e R s m args below meth c B.U B.locs B.cells B.slots ∧ PostX ⟨T.setVm vm₁, locs, cells, slots⟩ argsL.toArray q B ∧
      Steps p.tables e below (T.setTop g) ((B.U.setTop { g with stack := rest }).pushFrame (.throwing q))) := by
  obtain ⟨mk, methM, cM, hnamed, hmethM, -, -, -, -, -, -, hsigM⟩ := Cond.codeWith_spec hcode
  have hstatic : methM.isStatic = true := Cond.static_spec hnamed hmethM hstat
  obtain ⟨kP, hkP, -⟩ := className_of_methodNamed hnamed
  have hinitP : kP.init = .initialized := Cond.initialized_spec (findClass_of_methodNamed hnamed) hkP hinit
  obtain ⟨vm₁, X₁, hstep₁⟩ := X.invokestatic hexec hown hlink hnamed hmethM hstatic hkP hinitP hy (g := g) hg (argsL := argsL) (rest := rest) (hlen _ hsigM) hstack hdg
  rcases hK m meth c ⟨T.setVm vm₁, locs, cells, slots⟩ { g with stack := rest } (.invokestatic index) mk argsL.toArray X₁ hg hsize hdg hW (X₁.named hnamed) (hpre vm₁ X₁.warmed) with ⟨v, B, X', hpost, hsteps⟩ | ⟨q, B, X', hpost, hsteps⟩
  · exact Or.inl ⟨v, vm₁, B, X₁.warmed, X', hpost, fun target h => hstep₁ _ fun acts => by rw [doInvoke_state]; exact hsteps.trans h⟩
  · exact Or.inr ⟨q, vm₁, B, X₁.warmed, X', hpost, hstep₁ _ fun acts => by rw [doInvoke_state]; exact hsteps⟩
theorem vx_callVW (X : Stand p l e R s m args below meth c T locs cells slots) (hexec : p.tables.exec = Jvm.exec) {own C : String} {index : Nat} {y : MethodName} {bytes : ByteArray} {maxL : Nat} {ret : Option FieldType} {hh : List (Nat × Nat × Nat × Nat)}
    (hown : s.vm.findClass own = some m.cls) (hlink : (Cond.methodLink own index y).before args s = true) (hinst : (Cond.instanceMethod y).before args s = true) (hsel : (Cond.selects C y y).before args s = true)
    (hcode : (Cond.codeWith y bytes maxL ret hh).before args s = true) (hy : y.cls ≠ "java/lang/invoke/MethodHandle" ∧ y.cls ≠ "java/lang/invoke/VarHandle")
    {W9 : Nat} {Pre : Pt → Array Value → Prop} {Post : Pt → Array Value → Option Value → Pt → Prop} (hK : Back l R p e below s args y 3 W9 Pre Post)
    {b : Addr} {cellB : Cell} (hcell : T.heap[b]? = some cellB) (hobj : cellB.vm.isStatics = false) (hcls : s.vm.findClass C = some cellB.cls)
    {g : JFrame} (hg : g.method = m) (hsize : g.locals.size = c.maxLocals) {argsL rest : List Value} (hlen : ∀ sig, parseMethodDescriptor y.desc = some sig → argsL.length = sig.parameters.length)
    (hstack : g.stack = argsL.reverse ++ .ref b :: rest) (hW : 2 * g.monitorRoom + (rest.map fun v => v.category).sum ≤ W9) (hdg : decode c.code g.pc = .ok (.invokevirtual index, 3))
    (hpre : ∀ vm₁, s.WarmedH vm₁ → Pre ⟨T.setVm vm₁, locs, cells, slots⟩ (Value.ref b :: argsL).toArray) :
    ∃ (v : Option Value) (vm₁ : Vm) (B : Pt), s.WarmedH vm₁ ∧ Stand p l e R s m args below meth c B.U B.locs B.cells B.slots ∧ Post ⟨T.setVm vm₁, locs, cells, slots⟩ (Value.ref b :: argsL).toArray v B ∧
      ∀ target, Steps p.tables e below (B.U.setTop { g with pc := g.pc + 3, stack := v.toList ++ rest }) target → Steps p.tables e below (T.setTop g) target := by
  obtain ⟨mk, methM, hnamed, hmethM, hstM, habM⟩ := Cond.instanceMethod_spec hinst
  obtain ⟨m8, methM', cM, hn8, hmethM', -, -, -, -, -, -, hsigM⟩ := Cond.codeWith_spec hcode
  cases Option.some.inj (hn8.symm.trans hnamed)
  cases hmethM.symm.trans hmethM'
  obtain ⟨c2, r2, m2, q1, q2, q3, q4, kP, hkP, hkPi⟩ := Cond.selects_spec hsel
  cases hcls.symm.trans q1
  cases (State.methodFound?_of_named hnamed hy).symm.trans q2
  cases hnamed.symm.trans q3
  have hselP : selectMethod e.platform s.vm cellB.cls mk = .method mk := by rw [Launch.admits_selectMethod X.admits]; exact q4
  obtain ⟨vm₁, X₁, hstep₁⟩ := X.invokevirtual hexec hown hlink hnamed hmethM hstM hkP hkPi hy (a := b) (cell := cellB) hcell
    (fun z h => by rw [h] at hobj; cases hobj) hselP hmethM habM hkP hkPi (g := g) hg (argsL := argsL) (rest := rest) (hlen _ hsigM) hstack hdg
  obtain ⟨v, B, X', hpost, hsteps⟩ := hK m meth c ⟨T.setVm vm₁, locs, cells, slots⟩ { g with stack := rest } (.invokevirtual index) mk (Value.ref b :: argsL).toArray X₁ hg hsize hdg hW (X₁.named hnamed) (hpre vm₁ X₁.warmed)
  exact ⟨v, vm₁, B, X₁.warmed, X', hpost, fun target h => hstep₁ _ fun acts => by rw [doInvoke_state]; exact hsteps.trans h⟩
abbrev vx_CVW (R : Room) (s : State) (args : Array Value) (own C : String) (index : Nat) (y : MethodName) (bytes : ByteArray) (maxL : Nat) (ret : Option FieldType) (hh : List (Nat × Nat × Nat × Nat)) (ws : List Cond) (rm : Room) (mc ms n : Nat) : Prop :=
  (rm.cells = mc ∧ rm.slots = ms ∧ rm.frames + 1 ≤ R.frames ∧ 8 + (maxL + 11) + rm.locals ≤ R.locals ∧ (∀ w ∈ ws, ∀ (a' : Array Value) (U : State), s.WarmedH U.vm → w.before a' U = true) ∧ Cond.codeWith y bytes maxL ret hh ∈ ws) ∧
  (Cond.codeWith y bytes maxL ret hh).before args s = true ∧ (Cond.initialized y.cls).before args s = true ∧ (y.cls ≠ "java/lang/invoke/MethodHandle" ∧ y.cls ≠ "java/lang/invoke/VarHandle") ∧
  (∀ sig, parseMethodDescriptor y.desc = some sig → n = sig.parameters.length) ∧ (Cond.methodLink own index y).before args s = true ∧ (Cond.instanceMethod y).before args s = true ∧ (Cond.selects C y y).before args s = true
theorem vx_cwVW {own C : String} {index maxL mc ms : Nat} {y : MethodName} {bytes : ByteArray} {ret : Option FieldType} {hh : List (Nat × Nat × Nat × Nat)} {Ts ws ws' : List Cond} {rm : Room} (n : Nat) (ht : ∀ w ∈ Ts, w.before args s = true) (hT : GoodIn Ts (wsV own index C y ws)) (hw : ws = Cond.codeWith y bytes maxL ret hh :: ws') (hrc : rm.cells = mc) (hrs : rm.slots = ms)
    (hd : y.cls = C ∧ y.cls ≠ "java/lang/invoke/MethodHandle" ∧ y.cls ≠ "java/lang/invoke/VarHandle" ∧ (parseMethodDescriptor y.desc).map (fun d => d.parameters.length) = some n) (hR : rm.frames + 1 ≤ R.frames ∧ 8 + (maxL + 11) + rm.locals ≤ R.locals) :
    vx_CVW R s args own C index y bytes maxL ret hh ws rm mc ms n := by
  obtain ⟨hC, hd⟩ := hd
  subst hC
  have ok : ∀ w ∈ wsV own index y.cls y ws, w.before args s = true := fun w h => ht w (hT w h).1
  have hG : GoodIn Ts ws := fun w h => hT w (by unfold wsV; exact List.mem_append_right _ h)
  have hc : Cond.codeWith y bytes maxL ret hh ∈ ws := by rw [hw]; exact List.mem_cons_self
  refine ⟨⟨hrc, hrs, hR.1, hR.2, pay_in ht hG, hc⟩, ht _ (hG _ hc).1, ok _ (by simp [wsV]), ⟨hd.1, hd.2.1⟩, fun sig h => ?_, ok _ (by simp [wsV]), ok _ (by simp [wsV]), ok _ (by simp [wsV])⟩
  have h2 := hd.2.2
  rw [h] at h2
  exact (Option.some.inj h2).symm
theorem vx_runVW {y : MethodName} {bytes cc : ByteArray} {maxL nL mc ms n index : Nat} {ret : Option FieldType} {hh : List (Nat × Nat × Nat × Nat)} {ws : List Cond} {rm : Room} {Pc : Array Value → State → Prop} {Qc : Array Value → State → Outcome → State → Prop} {free : Addr → Prop} {Ts : List Cond} {own C : String} {b : Addr} {As rest : List Value} {g : JFrame}
    (S : CallFix p m c cc nL s args Ts own) (hM : Met l y ws rm Pc Qc mc ms free) (cw : vx_CVW R s args own C index y bytes maxL ret hh ws rm mc ms n) (hp : PreV s H C b Pc As)
    (hg : g.method = m) (hn : As.length = n) (hsize : g.locals.size = nL) (hstack : g.stack = As.reverse ++ .ref b :: rest) (hW : 2 * g.monitorRoom + (rest.map fun v => v.category).sum ≤ 8) (hdg : decode cc g.pc = .ok (.invokevirtual index, 3)) (hf : cells + mc ≤ R.cells ∧ slots + ms ≤ R.slots) :
    va_Run p l e R s m args below meth c H locs cells slots mc ms g rest (Qc (Value.ref b :: As).toArray) free := by
  obtain ⟨⟨hrc, hrs, hfr, hlo, hws, hcw⟩, hcode, hini, hy, hlen, hl, hin, hse⟩ := cw
  have hK : Back l R p e below s args y 3 8 (PreOf R mc ms Pc) (PostOf Qc mc ms free) := va_backW (hh := hh) (bytes := bytes) (maxL := maxL) (ret := ret) hM hp.1 hrc hrs hfr hlo hws hcw (fun a' U hW => word_at hW (Or.inl (by first | rfl | simp [Cond.onTables, Cond.keeps, Cond.steady])) hini)
  obtain ⟨hx, hb, hml, ho, -⟩ := S
  obtain ⟨-, ⟨cellB, hcB, hoB, hclB⟩, hPc⟩ := hp
  intro T hT X
  obtain ⟨v, vm₁, ⟨U', l2, c2, s2⟩, hW₁, X', ⟨g', mk, t, L, e1, e2, hq, h1, hL, h2, h3⟩, st⟩ := vx_callVW X hx (C := C) (hh := hh) (bytes := bytes) (maxL := maxL) (ret := ret) ho hl hin hse hcode hy hK (by rw [hT]; exact hcB) hoB hclB hg (hsize.trans hml.symm) (argsL := As) (rest := rest) (fun sig h => hn.trans (hlen sig h)) hstack hW (by rw [hb]; exact hdg)
    (fun vm₁ hW₁ => ⟨hf.1, hf.2, hPc (T.setVm vm₁) hT hW₁⟩)
  dsimp only [Pt.U, Pt.locs, Pt.cells, Pt.slots] at X' e1 e2 h1 h2 h3 st
  subst h1; subst h2; subst h3
  exact ⟨v, (T.setVm vm₁).calling g' mk (Value.ref b :: As).toArray, t, U', L, hT, X', hL, e1, e2, hq, st⟩
section
variable {y : MethodName} {bytes cc : ByteArray} {maxL nL mc ms n index : Nat} {ret : Option FieldType} {ws : List Cond} {rm : Room} {Pc : Array Value → State → Prop} {Qc : Array Value → State → Outcome → State → Prop} {XC : String → State → State → Prop} {free : Addr → Prop} {Ts : List Cond} {own C : String} {b : Addr} {As rest : List Value} {g : JFrame}
theorem vx_runVX {hh : List (Nat × Nat × Nat × Nat)} (S : CallFix p m c cc nL s args Ts own) (hM : vx_Met l y ws rm Pc Qc XC mc ms free) (cw : vx_CVW R s args own C index y bytes maxL ret hh ws rm mc ms n) (hp : PreV s H C b Pc As)
    (hg : g.method = m) (hn : As.length = n) (hsize : g.locals.size = nL) (hstack : g.stack = As.reverse ++ .ref b :: rest) (hW : 2 * g.monitorRoom + (rest.map fun v => v.category).sum ≤ 8) (hdg : decode cc g.pc = .ok (.invokevirtual index, 3)) (hf : cells + mc ≤ R.cells ∧ slots + ms ≤ R.slots) :
    vx_Run p l e R s m args below meth c H locs cells slots mc ms g rest (Qc (Value.ref b :: As).toArray) XC free := by
  obtain ⟨⟨hrc, hrs, hfr, hlo, hws, hcw⟩, hcode, hini, hy, hlen, hl, hin, hse⟩ := cw
  have hK : vx_Back l R p e below s args y 3 8 (PreOf R mc ms Pc) (PostOf Qc mc ms free) (vx_Post XC mc ms free) := vx_backW (hh := hh) (bytes := bytes) (maxL := maxL) (ret := ret) hM hp.1 hrc hrs hfr hlo hws hcw (fun a' U hW => word_at hW (Or.inl (by first | rfl | simp [Cond.onTables, Cond.keeps, Cond.steady])) hini)
  obtain ⟨hx, hb, hml, ho, -⟩ := S
  obtain ⟨-, ⟨cellB, hcB, hoB, hclB⟩, hPc⟩ := hp
  intro T hT X
  rcases vx_callVX X hx (C := C) (hh := hh) (bytes := bytes) (maxL := maxL) (ret := ret) ho hl hin hse hcode hy hK (by rw [hT]; exact hcB) hoB hclB hg (hsize.trans hml.symm) (argsL := As) (rest := rest) (fun sig h => hn.trans (hlen sig h)) hstack hW (by rw [hb]; exact hdg)
    (fun vm₁ hW₁ => ⟨hf.1, hf.2, hPc (T.setVm vm₁) hT hW₁⟩) with ⟨v, vm₁, ⟨U', l2, c2, s2⟩, hW₁, X', ⟨g', mk, t, L, e1, e2, hq, h1, hL, h2, h3⟩, st⟩ | ⟨q, vm₁, ⟨U', l2, c2, s2⟩, hW₁, X', ⟨g', mk, t, L, E, ce, e1, e2, hq, hce, hcv, hcl, h1, hL, h2, h3⟩, st⟩
  · dsimp only [Pt.U, Pt.locs, Pt.cells, Pt.slots] at X' e1 e2 h1 h2 h3 st
    subst h1; subst h2; subst h3
    exact Or.inl ⟨v, (T.setVm vm₁).calling g' mk (Value.ref b :: As).toArray, t, U', L, hT, X', hL, e1, e2, hq, st⟩
  · dsimp only [Pt.U, Pt.locs, Pt.cells, Pt.slots] at X' e1 e2 h1 h2 h3 st hcl
    subst h1; subst h2; subst h3
    exact Or.inr ⟨q, (T.setVm vm₁).calling g' mk (Value.ref b :: As).toArray, t, U', L, E, ce, hT, X', hL, e1, e2, hq, hce, hcv, vx_cls hW₁ hcl, st⟩
theorem vx_runSX {hh : List (Nat × Nat × Nat × Nat)} (S : CallFix p m c cc nL s args Ts own) (hM : vx_Met l y ws rm Pc Qc XC mc ms free) (cw : vx_CSW R s args own index y bytes maxL ret hh ws rm mc ms n) (hp : PreS s H Pc As)
    (hg : g.method = m) (hn : As.length = n) (hsize : g.locals.size = nL) (hstack : g.stack = As.reverse ++ rest) (hW : 2 * g.monitorRoom + (rest.map fun v => v.category).sum ≤ 8) (hdg : decode cc g.pc = .ok (.invokestatic index, 3)) (hf : cells + mc ≤ R.cells ∧ slots + ms ≤ R.slots) :
    vx_Run p l e R s m args below meth c H locs cells slots mc ms g rest (Qc As.toArray) XC free := by
  obtain ⟨⟨hrc, hrs, hfr, hlo, hws, hcw⟩, hcode, hini, hy, hlen, hl, hstt⟩ := cw
  have hK : vx_Back l R p e below s args y 3 8 (PreOf R mc ms Pc) (PostOf Qc mc ms free) (vx_Post XC mc ms free) := vx_backW (hh := hh) (bytes := bytes) (maxL := maxL) (ret := ret) hM hp.1 hrc hrs hfr hlo hws hcw (fun a' U hW => word_at hW (Or.inl (by first | rfl | simp [Cond.onTables, Cond.keeps, Cond.steady])) hini)
  obtain ⟨hx, hb, hml, ho, -⟩ := S
  intro T hT X
  rcases vx_callSX X hx (hh := hh) (bytes := bytes) (maxL := maxL) (ret := ret) ho hl hstt hini hcode hy hK hg (hsize.trans hml.symm) (argsL := As) (rest := rest) (fun sig h => hn.trans (hlen sig h)) hstack hW (by rw [hb]; exact hdg)
    (fun vm₁ hW₁ => ⟨hf.1, hf.2, hp.2 (T.setVm vm₁) hT hW₁⟩) with ⟨v, vm₁, ⟨U', l2, c2, s2⟩, hW₁, X', ⟨g', mk, t, L, e1, e2, hq, h1, hL, h2, h3⟩, st⟩ | ⟨q, vm₁, ⟨U', l2, c2, s2⟩, hW₁, X', ⟨g', mk, t, L, E, ce, e1, e2, hq, hce, hcv, hcl, h1, hL, h2, h3⟩, st⟩
  · dsimp only [Pt.U, Pt.locs, Pt.cells, Pt.slots] at X' e1 e2 h1 h2 h3 st
    subst h1; subst h2; subst h3
    exact Or.inl ⟨v, (T.setVm vm₁).calling g' mk As.toArray, t, U', L, hT, X', hL, e1, e2, hq, st⟩
  · dsimp only [Pt.U, Pt.locs, Pt.cells, Pt.slots] at X' e1 e2 h1 h2 h3 st hcl
    subst h1; subst h2; subst h3
    exact Or.inr ⟨q, (T.setVm vm₁).calling g' mk As.toArray, t, U', L, E, ce, hT, X', hL, e1, e2, hq, hce, hcv, vx_cls hW₁ hcl, st⟩
end
end VXH
theorem vx_ofWH {l : Launch} {y : MethodName} {ws ws' : List Cond} {rm : Room} {Pc : Array Value → State → Prop} {Qc : Array Value → State → Outcome → State → Prop} {XC : String → State → State → Prop} {mc ms : Nat} {free : Addr → Prop} {cc : ByteArray} {maxL : Nat} {ret : Option FieldType} {hh : List (Nat × Nat × Nat × Nat)}
    (hy : plainName y.cls = true) (hw : ws = Cond.codeWith y cc maxL ret hh :: ws')
    (body : ∀ p e s m args below meth c s₁, BodyLoose p l y (headSpec ws rm) cc maxL ret e s m args below meth c s₁ → c.maxLocals = maxL → Pc args s →
      W p l e (headSpec ws rm).room s m args below meth c s.heap [] 0 0 (vx_MQ below Qc XC args s mc ms free) (entryFrame m args maxL)) : vx_Met l y ws rm Pc Qc XC mc ms free := by
  refine MetFree.of_bodyS (code := cc) (maxLocals := maxL) (ret := ret) hy ?_ ?_
  · intro args s m h hn
    obtain ⟨m9, meth, c, hn9, h1, h2, h3, h4, -, h5, h6, -⟩ := Cond.codeWith_spec (atoms_spec (ws := ws) h _ (by rw [hw]; exact List.mem_cons_self))
    cases hn.symm.trans hn9
    exact ⟨meth, c, h1, h2, h3, h4, h5, h6⟩
  · intro p e s m args below meth c s₁ B hml hP _
    have hh0 : s₁.heap = s.heap := by rw [B.state]; rfl
    obtain ⟨t, a1, o, b1, b2, b3⟩ := body p e s m args below meth c s₁ B hml hP s₁ hh0 (Stand.of_body B)
    exact ⟨t, o, a1, b1, b2, b3⟩
/-! ===== END ===== -/

/-! ===== BEGIN printed: names, fields, word lists, decode rows ===== -/
def RX0 : String := "Gladehall$Battle"
def TX0 : u_T := fun k => match k with
  | 0 => ("Gladehall$Battle", "first", "LGladehall$Side;", true)
  | 1 => ("Gladehall$Battle", "second", "LGladehall$Side;", true)
  | 2 => ("Gladehall$Battle", "struckPlaces", "[I", true)
  | 3 => ("Gladehall$Battle", "struckHealths", "[I", true)
  | _ => ("Gladehall$Battle", "blowsStruck", "I", false)
def tyX0 : Nat → FieldType := fun k => match k with
  | 0 => .object "Gladehall$Side"
  | 1 => .object "Gladehall$Side"
  | 2 => .array .int
  | 3 => .array .int
  | _ => .int
abbrev wsX00 : List Cond := u_ws RX0 TX0 5
theorem nmX0 : ∀ a, a < 5 → ∀ b, b < 5 → a ≠ b → (TX0 a).2.1 ≠ (TX0 b).2.1 := by decide +kernel
theorem tyX0_ok : ∀ k, k < 5 → parseFieldDescriptor (TX0 k).2.2.1 = some (tyX0 k) := by decide +kernel
abbrev cX0_init : ByteArray := prog_2_method_1_code
def yX0_init : MethodName := ⟨RX0, "<init>", "()V"⟩
abbrev cX0_muster : ByteArray := prog_2_method_2_code
def yX0_muster : MethodName := ⟨RX0, "muster", "(LGladehall$UnitRow;LGladehall$UnitRow;)V"⟩
abbrev cX0_fightOut : ByteArray := prog_2_method_3_code
def yX0_fightOut : MethodName := ⟨RX0, "fightOut", "()V"⟩
abbrev cX0_redo : ByteArray := prog_2_method_4_code
def yX0_redo : MethodName := ⟨RX0, "redo", "()V"⟩
abbrev cX0_result : ByteArray := prog_2_method_5_code
def yX0_result : MethodName := ⟨RX0, "result", "()I"⟩
def RX1 : String := "Gladehall$Numbers"
def TX1 : u_T := fun k => match k with
  | 0 => ("Gladehall$Numbers", "ring", "[I", true)
  | 1 => ("Gladehall$Numbers", "first", "I", false)
  | _ => ("Gladehall$Numbers", "left", "I", false)
def tyX1 : Nat → FieldType := fun k => match k with
  | 0 => .array .int
  | 1 => .int
  | _ => .int
abbrev wsX10 : List Cond := u_ws RX1 TX1 3
theorem nmX1 : ∀ a, a < 3 → ∀ b, b < 3 → a ≠ b → (TX1 a).2.1 ≠ (TX1 b).2.1 := by decide +kernel
theorem tyX1_ok : ∀ k, k < 3 → parseFieldDescriptor (TX1 k).2.2.1 = some (tyX1 k) := by decide +kernel
abbrev cX1_init : ByteArray := prog_3_method_1_code
def yX1_init : MethodName := ⟨RX1, "<init>", "()V"⟩
abbrev cX1_append : ByteArray := prog_3_method_2_code
def yX1_append : MethodName := ⟨RX1, "append", "(I)Z"⟩
abbrev cX1_take : ByteArray := prog_3_method_3_code
def yX1_take : MethodName := ⟨RX1, "take", "()I"⟩
def RX2 : String := "Gladehall$Player"
def TX2 : u_T := fun k => match k with
  | 0 => ("Gladehall$Player", "gold", "I", false)
  | 1 => ("Gladehall$Player", "level", "I", false)
  | 2 => ("Gladehall$Player", "health", "I", false)
  | 3 => ("Gladehall$Player", "streak", "I", false)
  | 4 => ("Gladehall$Player", "locked", "Z", false)
  | 5 => ("Gladehall$Player", "shop", "[I", true)
  | 6 => ("Gladehall$Player", "bench", "LGladehall$UnitRow;", true)
  | _ => ("Gladehall$Player", "board", "LGladehall$UnitRow;", true)
def tyX2 : Nat → FieldType := fun k => match k with
  | 0 => .int
  | 1 => .int
  | 2 => .int
  | 3 => .int
  | 4 => .boolean
  | 5 => .array .int
  | 6 => .object "Gladehall$UnitRow"
  | _ => .object "Gladehall$UnitRow"
abbrev wsX20 : List Cond := u_ws RX2 TX2 8
theorem nmX2 : ∀ a, a < 8 → ∀ b, b < 8 → a ≠ b → (TX2 a).2.1 ≠ (TX2 b).2.1 := by decide +kernel
theorem tyX2_ok : ∀ k, k < 8 → parseFieldDescriptor (TX2 k).2.2.1 = some (tyX2 k) := by decide +kernel
abbrev cX2_init : ByteArray := prog_4_method_1_code
def yX2_init : MethodName := ⟨RX2, "<init>", "()V"⟩
abbrev cX2_addGold : ByteArray := prog_4_method_2_code
def yX2_addGold : MethodName := ⟨RX2, "addGold", "(I)V"⟩
abbrev cX2_earn : ByteArray := prog_4_method_3_code
def yX2_earn : MethodName := ⟨RX2, "earn", "()V"⟩
abbrev cX2_win : ByteArray := prog_4_method_4_code
def yX2_win : MethodName := ⟨RX2, "win", "()V"⟩
abbrev cX2_lose : ByteArray := prog_4_method_5_code
def yX2_lose : MethodName := ⟨RX2, "lose", "(I)V"⟩
abbrev cX2_unitsHeld : ByteArray := prog_4_method_6_code
def yX2_unitsHeld : MethodName := ⟨RX2, "unitsHeld", "(I)I"⟩
abbrev cX2_mergeThrees : ByteArray := prog_4_method_7_code
def yX2_mergeThrees : MethodName := ⟨RX2, "mergeThrees", "()V"⟩
abbrev cX2_mergeFirstThree : ByteArray := prog_4_method_8_code
def yX2_mergeFirstThree : MethodName := ⟨RX2, "mergeFirstThree", "()Z"⟩
abbrev cX2_mergeThree : ByteArray := prog_4_method_9_code
def yX2_mergeThree : MethodName := ⟨RX2, "mergeThree", "(II)V"⟩
abbrev cX2_rowOfFirst : ByteArray := prog_4_method_10_code
def yX2_rowOfFirst : MethodName := ⟨RX2, "rowOfFirst", "(II)LGladehall$UnitRow;"⟩
def RX3 : String := "Gladehall$Pool"
def TX3 : u_T := fun k => match k with
  | _ => ("Gladehall$Pool", "units", "[I", true)
def tyX3 : Nat → FieldType := fun k => match k with
  | _ => .array .int
abbrev wsX30 : List Cond := u_ws RX3 TX3 1
theorem nmX3 : ∀ a, a < 1 → ∀ b, b < 1 → a ≠ b → (TX3 a).2.1 ≠ (TX3 b).2.1 := by decide +kernel
theorem tyX3_ok : ∀ k, k < 1 → parseFieldDescriptor (TX3 k).2.2.1 = some (tyX3 k) := by decide +kernel
abbrev cX3_init : ByteArray := prog_5_method_1_code
def yX3_init : MethodName := ⟨RX3, "<init>", "()V"⟩
abbrev cX3_putBack : ByteArray := prog_5_method_2_code
def yX3_putBack : MethodName := ⟨RX3, "putBack", "(II)V"⟩
abbrev cX3_unitsUpTo : ByteArray := prog_5_method_3_code
def yX3_unitsUpTo : MethodName := ⟨RX3, "unitsUpTo", "(I)I"⟩
abbrev cX3_draw : ByteArray := prog_5_method_4_code
def yX3_draw : MethodName := ⟨RX3, "draw", "(II)I"⟩
def RX4 : String := "Gladehall$Side"
def TX4 : u_T := fun k => match k with
  | 0 => ("Gladehall$Side", "healths", "[I", true)
  | 1 => ("Gladehall$Side", "strengths", "[I", true)
  | 2 => ("Gladehall$Side", "size", "I", false)
  | _ => ("Gladehall$Side", "next", "I", false)
def tyX4 : Nat → FieldType := fun k => match k with
  | 0 => .array .int
  | 1 => .array .int
  | 2 => .int
  | _ => .int
abbrev wsX40 : List Cond := u_ws RX4 TX4 4
theorem nmX4 : ∀ a, a < 4 → ∀ b, b < 4 → a ≠ b → (TX4 a).2.1 ≠ (TX4 b).2.1 := by decide +kernel
theorem tyX4_ok : ∀ k, k < 4 → parseFieldDescriptor (TX4 k).2.2.1 = some (tyX4 k) := by decide +kernel
abbrev cX4_init : ByteArray := prog_6_method_1_code
def yX4_init : MethodName := ⟨RX4, "<init>", "()V"⟩
abbrev cX4_muster : ByteArray := prog_6_method_2_code
def yX4_muster : MethodName := ⟨RX4, "muster", "(LGladehall$UnitRow;)V"⟩
abbrev cX4_living : ByteArray := prog_6_method_3_code
def yX4_living : MethodName := ⟨RX4, "living", "()I"⟩
abbrev cX4_firstLiving : ByteArray := prog_6_method_4_code
def yX4_firstLiving : MethodName := ⟨RX4, "firstLiving", "()I"⟩
abbrev cX4_takeBlow : ByteArray := prog_6_method_5_code
def yX4_takeBlow : MethodName := ⟨RX4, "takeBlow", "(II)V"⟩
abbrev cX4_takeTurn : ByteArray := prog_6_method_6_code
def yX4_takeTurn : MethodName := ⟨RX4, "takeTurn", "()I"⟩
def RX5 : String := "Gladehall$UnitRow"
def TX5 : u_T := fun k => match k with
  | 0 => ("Gladehall$UnitRow", "kinds", "[I", true)
  | 1 => ("Gladehall$UnitRow", "stars", "[I", true)
  | _ => ("Gladehall$UnitRow", "size", "I", false)
def tyX5 : Nat → FieldType := fun k => match k with
  | 0 => .array .int
  | 1 => .array .int
  | _ => .int
abbrev wsX50 : List Cond := u_ws RX5 TX5 3
theorem nmX5 : ∀ a, a < 3 → ∀ b, b < 3 → a ≠ b → (TX5 a).2.1 ≠ (TX5 b).2.1 := by decide +kernel
theorem tyX5_ok : ∀ k, k < 3 → parseFieldDescriptor (TX5 k).2.2.1 = some (tyX5 k) := by decide +kernel
abbrev cX5_init : ByteArray := prog_7_method_1_code
def yX5_init : MethodName := ⟨RX5, "<init>", "(I)V"⟩
abbrev cX5_has : ByteArray := prog_7_method_2_code
def yX5_has : MethodName := ⟨RX5, "has", "(I)Z"⟩
abbrev cX5_append : ByteArray := prog_7_method_3_code
def yX5_append : MethodName := ⟨RX5, "append", "(II)Z"⟩
abbrev cX5_removeAt : ByteArray := prog_7_method_4_code
def yX5_removeAt : MethodName := ⟨RX5, "removeAt", "(I)V"⟩
abbrev cX5_find : ByteArray := prog_7_method_5_code
def yX5_find : MethodName := ⟨RX5, "find", "(II)I"⟩
abbrev cX5_countOf : ByteArray := prog_7_method_6_code
def yX5_countOf : MethodName := ⟨RX5, "countOf", "(II)I"⟩
abbrev cX5_hasKind : ByteArray := prog_7_method_7_code
def yX5_hasKind : MethodName := ⟨RX5, "hasKind", "(I)Z"⟩
abbrev cX5_unitsHeld : ByteArray := prog_7_method_8_code
def yX5_unitsHeld : MethodName := ⟨RX5, "unitsHeld", "(I)I"⟩
abbrev cX5_unitAt : ByteArray := prog_7_method_9_code
def yX5_unitAt : MethodName := ⟨RX5, "unitAt", "(I)I"⟩
abbrev cX5_healthAt : ByteArray := prog_7_method_10_code
def yX5_healthAt : MethodName := ⟨RX5, "healthAt", "(I)I"⟩
abbrev cX5_strengthAt : ByteArray := prog_7_method_11_code
def yX5_strengthAt : MethodName := ⟨RX5, "strengthAt", "(I)I"⟩
def RX6 : String := "Gladehall"
def TX6 : u_T := fun k => match k with
  | 0 => ("Gladehall", "players", "[LGladehall$Player;", true)
  | 1 => ("Gladehall", "stock", "LGladehall$Pool;", true)
  | 2 => ("Gladehall", "numbers", "LGladehall$Numbers;", true)
  | 3 => ("Gladehall", "battle", "LGladehall$Battle;", true)
  | _ => ("Gladehall", "roundsPlayed", "I", false)
def tyX6 : Nat → FieldType := fun k => match k with
  | 0 => .array (.object "Gladehall$Player")
  | 1 => .object "Gladehall$Pool"
  | 2 => .object "Gladehall$Numbers"
  | 3 => .object "Gladehall$Battle"
  | _ => .int
abbrev wsX60 : List Cond := u_ws RX6 TX6 5
theorem nmX6 : ∀ a, a < 5 → ∀ b, b < 5 → a ≠ b → (TX6 a).2.1 ≠ (TX6 b).2.1 := by decide +kernel
theorem tyX6_ok : ∀ k, k < 5 → parseFieldDescriptor (TX6 k).2.2.1 = some (tyX6 k) := by decide +kernel
abbrev cX6_init : ByteArray := prog_1_method_1_code
def yX6_init : MethodName := ⟨RX6, "<init>", "()V"⟩
abbrev cX6_tell : ByteArray := prog_1_method_2_code
def yX6_tell : MethodName := ⟨RX6, "tell", "(I)I"⟩
abbrev cX6_roll : ByteArray := prog_1_method_3_code
def yX6_roll : MethodName := ⟨RX6, "roll", "(I)I"⟩
abbrev cX6_toggleLock : ByteArray := prog_1_method_4_code
def yX6_toggleLock : MethodName := ⟨RX6, "toggleLock", "(I)Z"⟩
abbrev cX6_buyLevel : ByteArray := prog_1_method_5_code
def yX6_buyLevel : MethodName := ⟨RX6, "buyLevel", "(I)I"⟩
abbrev cX6_buy : ByteArray := prog_1_method_6_code
def yX6_buy : MethodName := ⟨RX6, "buy", "(II)I"⟩
abbrev cX6_sell : ByteArray := prog_1_method_7_code
def yX6_sell : MethodName := ⟨RX6, "sell", "(II)I"⟩
abbrev cX6_toBoard : ByteArray := prog_1_method_8_code
def yX6_toBoard : MethodName := ⟨RX6, "toBoard", "(II)I"⟩
abbrev cX6_toBench : ByteArray := prog_1_method_9_code
def yX6_toBench : MethodName := ⟨RX6, "toBench", "(II)I"⟩
abbrev cX6_round : ByteArray := prog_1_method_10_code
def yX6_round : MethodName := ⟨RX6, "round", "()I"⟩
abbrev cX6_rounds : ByteArray := prog_1_method_11_code
def yX6_rounds : MethodName := ⟨RX6, "rounds", "()I"⟩
abbrev cX6_fight : ByteArray := prog_1_method_12_code
def yX6_fight : MethodName := ⟨RX6, "fight", "(II)I"⟩
abbrev cX6_fightByRecord : ByteArray := prog_1_method_13_code
def yX6_fightByRecord : MethodName := ⟨RX6, "fightByRecord", "(II)I"⟩
abbrev cX6_gold : ByteArray := prog_1_method_14_code
def yX6_gold : MethodName := ⟨RX6, "gold", "(I)I"⟩
abbrev cX6_health : ByteArray := prog_1_method_15_code
def yX6_health : MethodName := ⟨RX6, "health", "(I)I"⟩
abbrev cX6_streak : ByteArray := prog_1_method_16_code
def yX6_streak : MethodName := ⟨RX6, "streak", "(I)I"⟩
abbrev cX6_shopAt : ByteArray := prog_1_method_17_code
def yX6_shopAt : MethodName := ⟨RX6, "shopAt", "(II)I"⟩
abbrev cX6_benchAt : ByteArray := prog_1_method_18_code
def yX6_benchAt : MethodName := ⟨RX6, "benchAt", "(II)I"⟩
abbrev cX6_boardAt : ByteArray := prog_1_method_19_code
def yX6_boardAt : MethodName := ⟨RX6, "boardAt", "(II)I"⟩
abbrev cX6_blow : ByteArray := prog_1_method_20_code
def yX6_blow : MethodName := ⟨RX6, "blow", "(II)I"⟩
abbrev cX6_pool : ByteArray := prog_1_method_21_code
def yX6_pool : MethodName := ⟨RX6, "pool", "(I)I"⟩
abbrev cX6_out : ByteArray := prog_1_method_22_code
def yX6_out : MethodName := ⟨RX6, "out", "(I)I"⟩
abbrev cX6_playerOf : ByteArray := prog_1_method_23_code
def yX6_playerOf : MethodName := ⟨RX6, "playerOf", "(I)LGladehall$Player;"⟩
abbrev cX6_requireKind : ByteArray := prog_1_method_24_code
def yX6_requireKind : MethodName := ⟨RX6, "requireKind", "(I)V"⟩
abbrev cX6_requireSlot : ByteArray := prog_1_method_25_code
def yX6_requireSlot : MethodName := ⟨RX6, "requireSlot", "(I)V"⟩
abbrev cX6_requireUnit : ByteArray := prog_1_method_26_code
def yX6_requireUnit : MethodName := ⟨RX6, "requireUnit", "(LGladehall$UnitRow;I)V"⟩
abbrev cX6_musterSides : ByteArray := prog_1_method_27_code
def yX6_musterSides : MethodName := ⟨RX6, "musterSides", "(II)V"⟩
abbrev cX6_fightPair : ByteArray := prog_1_method_28_code
def yX6_fightPair : MethodName := ⟨RX6, "fightPair", "(II)V"⟩
abbrev cX6_fillUnlockedShops : ByteArray := prog_1_method_29_code
def yX6_fillUnlockedShops : MethodName := ⟨RX6, "fillUnlockedShops", "()V"⟩
abbrev cX6_fillShop : ByteArray := prog_1_method_30_code
def yX6_fillShop : MethodName := ⟨RX6, "fillShop", "(LGladehall$Player;)V"⟩
abbrev cX6_playersWithHealth : ByteArray := prog_1_method_31_code
def yX6_playersWithHealth : MethodName := ⟨RX6, "playersWithHealth", "()I"⟩
abbrev cX6_costOf : ByteArray := prog_1_method_32_code
def yX6_costOf : MethodName := ⟨RX6, "costOf", "(I)I"⟩
abbrev cX6_unitsFor : ByteArray := prog_1_method_33_code
def yX6_unitsFor : MethodName := ⟨RX6, "unitsFor", "(I)I"⟩
def RX7 : String := "GladehallModel"
def TX7 : u_T := fun k => match k with
  | _ => ("", "", "", false)
def tyX7 : Nat → FieldType := fun k => match k with
  | _ => .int
abbrev wsX70 : List Cond := u_ws RX7 TX7 0
theorem nmX7 : ∀ a, a < 0 → ∀ b, b < 0 → a ≠ b → (TX7 a).2.1 ≠ (TX7 b).2.1 := by decide +kernel
theorem tyX7_ok : ∀ k, k < 0 → parseFieldDescriptor (TX7 k).2.2.1 = some (tyX7 k) := by decide +kernel
def RJx145de : String := "java/io/Serializable"
def TJx145de : u_T := fun k => match k with
  | _ => ("", "", "", false)
def tyJx145de : Nat → FieldType := fun k => match k with
  | _ => .int
theorem nmJx145de : ∀ a, a < 0 → ∀ b, b < 0 → a ≠ b → (TJx145de a).2.1 ≠ (TJx145de b).2.1 := by decide +kernel
theorem tyJx145de_ok : ∀ k, k < 0 → parseFieldDescriptor (TJx145de k).2.2.1 = some (tyJx145de k) := by decide +kernel
def RJ9 : String := "java/lang/Math"
def TJ9 : u_T := fun k => match k with
  | _ => ("", "", "", false)
def tyJ9 : Nat → FieldType := fun k => match k with
  | _ => .int
theorem nmJ9 : ∀ a, a < 0 → ∀ b, b < 0 → a ≠ b → (TJ9 a).2.1 ≠ (TJ9 b).2.1 := by decide +kernel
theorem tyJ9_ok : ∀ k, k < 0 → parseFieldDescriptor (TJ9 k).2.2.1 = some (tyJ9 k) := by decide +kernel
abbrev cJ9_min_7cf53 : ByteArray := prog_15_method_69_code
def yJ9_min_7cf53 : MethodName := ⟨RJ9, "min", "(II)I"⟩
def RJ0 : String := "java/lang/String"
def TJ0 : u_T := fun k => match k with
  | _ => ("", "", "", false)
def tyJ0 : Nat → FieldType := fun k => match k with
  | _ => .int
theorem nmJ0 : ∀ a, a < 0 → ∀ b, b < 0 → a ≠ b → (TJ0 a).2.1 ≠ (TJ0 b).2.1 := by decide +kernel
theorem tyJ0_ok : ∀ k, k < 0 → parseFieldDescriptor (TJ0 k).2.2.1 = some (tyJ0 k) := by decide +kernel
def RL : String := "GladehallLaw"
abbrev cL_cell : ByteArray := method_2_code
def yL_cell : MethodName := ⟨RL, "cell", "([II)I"⟩
abbrev cL_low : ByteArray := method_3_code
def yL_low : MethodName := ⟨RL, "low", "(II)I"⟩
abbrev cL_does : ByteArray := method_4_code
def yL_does : MethodName := ⟨RL, "does", "(LGladehall;III)I"⟩
abbrev cL_units : ByteArray := method_5_code
def yL_units : MethodName := ⟨RL, "units", "(LGladehall;I)I"⟩
abbrev cL_bench : ByteArray := method_6_code
def yL_bench : MethodName := ⟨RL, "bench", "(LGladehall;I)I"⟩
abbrev cL_board : ByteArray := method_7_code
def yL_board : MethodName := ⟨RL, "board", "(LGladehall;I)I"⟩
abbrev cL_act : ByteArray := method_8_code
def yL_act : MethodName := ⟨RL, "act", "(LGladehall;I)I"⟩
abbrev cL_areAlike : ByteArray := method_9_code
def yL_areAlike : MethodName := ⟨RL, "areAlike", "(LGladehall;LGladehall;)Z"⟩
abbrev cL_isHallSo : ByteArray := method_10_code
def yL_isHallSo : MethodName := ⟨RL, "isHallSo", "(LGladehall;I)Z"⟩
abbrev cL_isFoughtSo : ByteArray := method_11_code
def yL_isFoughtSo : MethodName := ⟨RL, "isFoughtSo", "(LGladehall;II)Z"⟩
abbrev cL_isMovedSo : ByteArray := method_12_code
def yL_isMovedSo : MethodName := ⟨RL, "isMovedSo", "(LGladehall;LGladehall;II)Z"⟩
abbrev cL_isSoldSo : ByteArray := method_13_code
def yL_isSoldSo : MethodName := ⟨RL, "isSoldSo", "(LGladehall;LGladehall;II)Z"⟩
abbrev cL_law : ByteArray := code
def yL_law : MethodName := ⟨RL, "law", "([I)Z"⟩
theorem dX0_init_0 : decode cX0_init 0 = .ok (.aload_n 0, 1) := by decide +kernel
theorem dX0_init_1 : decode cX0_init 1 = .ok (.invokespecial 3, 3) := by decide +kernel
theorem dX0_init_4 : decode cX0_init 4 = .ok (.aload_n 0, 1) := by decide +kernel
theorem dX0_init_5 : decode cX0_init 5 = .ok (.new 9, 3) := by decide +kernel
theorem dX0_init_8 : decode cX0_init 8 = .ok (.dup, 1) := by decide +kernel
theorem dX0_init_9 : decode cX0_init 9 = .ok (.invokespecial 11, 3) := by decide +kernel
theorem dX0_init_12 : decode cX0_init 12 = .ok (.putfield 12, 3) := by decide +kernel
theorem dX0_init_15 : decode cX0_init 15 = .ok (.aload_n 0, 1) := by decide +kernel
theorem dX0_init_16 : decode cX0_init 16 = .ok (.new 9, 3) := by decide +kernel
theorem dX0_init_19 : decode cX0_init 19 = .ok (.dup, 1) := by decide +kernel
theorem dX0_init_20 : decode cX0_init 20 = .ok (.invokespecial 11, 3) := by decide +kernel
theorem dX0_init_23 : decode cX0_init 23 = .ok (.putfield 18, 3) := by decide +kernel
theorem dX0_init_26 : decode cX0_init 26 = .ok (.aload_n 0, 1) := by decide +kernel
theorem dX0_init_27 : decode cX0_init 27 = .ok (.bipush 60, 2) := by decide +kernel
theorem dX0_init_29 : decode cX0_init 29 = .ok (.newarray .int, 2) := by decide +kernel
theorem dX0_init_31 : decode cX0_init 31 = .ok (.putfield 21, 3) := by decide +kernel
theorem dX0_init_34 : decode cX0_init 34 = .ok (.aload_n 0, 1) := by decide +kernel
theorem dX0_init_35 : decode cX0_init 35 = .ok (.bipush 60, 2) := by decide +kernel
theorem dX0_init_37 : decode cX0_init 37 = .ok (.newarray .int, 2) := by decide +kernel
theorem dX0_init_39 : decode cX0_init 39 = .ok (.putfield 25, 3) := by decide +kernel
theorem dX0_init_42 : decode cX0_init 42 = .ok (.return_, 1) := by decide +kernel
theorem dX0_muster_0 : decode cX0_muster 0 = .ok (.aload_n 0, 1) := by decide +kernel
theorem dX0_muster_1 : decode cX0_muster 1 = .ok (.getfield 12, 3) := by decide +kernel
theorem dX0_muster_4 : decode cX0_muster 4 = .ok (.aload_n 1, 1) := by decide +kernel
theorem dX0_muster_5 : decode cX0_muster 5 = .ok (.invokevirtual 28, 3) := by decide +kernel
theorem dX0_muster_8 : decode cX0_muster 8 = .ok (.aload_n 0, 1) := by decide +kernel
theorem dX0_muster_9 : decode cX0_muster 9 = .ok (.getfield 18, 3) := by decide +kernel
theorem dX0_muster_12 : decode cX0_muster 12 = .ok (.aload_n 2, 1) := by decide +kernel
theorem dX0_muster_13 : decode cX0_muster 13 = .ok (.invokevirtual 28, 3) := by decide +kernel
theorem dX0_muster_16 : decode cX0_muster 16 = .ok (.return_, 1) := by decide +kernel
theorem dX0_fightOut_0 : decode cX0_fightOut 0 = .ok (.aload_n 0, 1) := by decide +kernel
theorem dX0_fightOut_1 : decode cX0_fightOut 1 = .ok (.iconst 0, 1) := by decide +kernel
theorem dX0_fightOut_2 : decode cX0_fightOut 2 = .ok (.putfield 32, 3) := by decide +kernel
theorem dX0_fightOut_5 : decode cX0_fightOut 5 = .ok (.iconst 0, 1) := by decide +kernel
theorem dX0_fightOut_6 : decode cX0_fightOut 6 = .ok (.istore_n 1, 1) := by decide +kernel
theorem dX0_fightOut_7 : decode cX0_fightOut 7 = .ok (.iload_n 1, 1) := by decide +kernel
theorem dX0_fightOut_8 : decode cX0_fightOut 8 = .ok (.bipush 60, 2) := by decide +kernel
theorem dX0_fightOut_10 : decode cX0_fightOut 10 = .ok (.if_icmp .ge 114, 3) := by decide +kernel
theorem dX0_fightOut_13 : decode cX0_fightOut 13 = .ok (.iload_n 1, 1) := by decide +kernel
theorem dX0_fightOut_14 : decode cX0_fightOut 14 = .ok (.iconst 2, 1) := by decide +kernel
theorem dX0_fightOut_15 : decode cX0_fightOut 15 = .ok (.irem, 1) := by decide +kernel
theorem dX0_fightOut_16 : decode cX0_fightOut 16 = .ok (.ifCond .ne 10, 3) := by decide +kernel
theorem dX0_fightOut_19 : decode cX0_fightOut 19 = .ok (.aload_n 0, 1) := by decide +kernel
theorem dX0_fightOut_20 : decode cX0_fightOut 20 = .ok (.getfield 12, 3) := by decide +kernel
theorem dX0_fightOut_23 : decode cX0_fightOut 23 = .ok (.goto 7, 3) := by decide +kernel
theorem dX0_fightOut_26 : decode cX0_fightOut 26 = .ok (.aload_n 0, 1) := by decide +kernel
theorem dX0_fightOut_27 : decode cX0_fightOut 27 = .ok (.getfield 18, 3) := by decide +kernel
theorem dX0_fightOut_30 : decode cX0_fightOut 30 = .ok (.astore_n 2, 1) := by decide +kernel
theorem dX0_fightOut_31 : decode cX0_fightOut 31 = .ok (.iload_n 1, 1) := by decide +kernel
theorem dX0_fightOut_32 : decode cX0_fightOut 32 = .ok (.iconst 2, 1) := by decide +kernel
theorem dX0_fightOut_33 : decode cX0_fightOut 33 = .ok (.irem, 1) := by decide +kernel
theorem dX0_fightOut_34 : decode cX0_fightOut 34 = .ok (.ifCond .ne 10, 3) := by decide +kernel
theorem dX0_fightOut_37 : decode cX0_fightOut 37 = .ok (.aload_n 0, 1) := by decide +kernel
theorem dX0_fightOut_38 : decode cX0_fightOut 38 = .ok (.getfield 18, 3) := by decide +kernel
theorem dX0_fightOut_41 : decode cX0_fightOut 41 = .ok (.goto 7, 3) := by decide +kernel
theorem dX0_fightOut_44 : decode cX0_fightOut 44 = .ok (.aload_n 0, 1) := by decide +kernel
theorem dX0_fightOut_45 : decode cX0_fightOut 45 = .ok (.getfield 12, 3) := by decide +kernel
theorem dX0_fightOut_48 : decode cX0_fightOut 48 = .ok (.astore_n 3, 1) := by decide +kernel
theorem dX0_fightOut_49 : decode cX0_fightOut 49 = .ok (.aload_n 2, 1) := by decide +kernel
theorem dX0_fightOut_50 : decode cX0_fightOut 50 = .ok (.invokevirtual 36, 3) := by decide +kernel
theorem dX0_fightOut_53 : decode cX0_fightOut 53 = .ok (.istore 4, 2) := by decide +kernel
theorem dX0_fightOut_55 : decode cX0_fightOut 55 = .ok (.aload_n 3, 1) := by decide +kernel
theorem dX0_fightOut_56 : decode cX0_fightOut 56 = .ok (.invokevirtual 40, 3) := by decide +kernel
theorem dX0_fightOut_59 : decode cX0_fightOut 59 = .ok (.istore 5, 2) := by decide +kernel
theorem dX0_fightOut_61 : decode cX0_fightOut 61 = .ok (.iload 4, 2) := by decide +kernel
theorem dX0_fightOut_63 : decode cX0_fightOut 63 = .ok (.iconst (-1), 1) := by decide +kernel
theorem dX0_fightOut_64 : decode cX0_fightOut 64 = .ok (.if_icmp .eq 9, 3) := by decide +kernel
theorem dX0_fightOut_67 : decode cX0_fightOut 67 = .ok (.iload 5, 2) := by decide +kernel
theorem dX0_fightOut_69 : decode cX0_fightOut 69 = .ok (.iconst (-1), 1) := by decide +kernel
theorem dX0_fightOut_70 : decode cX0_fightOut 70 = .ok (.if_icmp .ne 4, 3) := by decide +kernel
theorem dX0_fightOut_73 : decode cX0_fightOut 73 = .ok (.return_, 1) := by decide +kernel
theorem dX0_fightOut_74 : decode cX0_fightOut 74 = .ok (.aload_n 3, 1) := by decide +kernel
theorem dX0_fightOut_75 : decode cX0_fightOut 75 = .ok (.iload 5, 2) := by decide +kernel
theorem dX0_fightOut_77 : decode cX0_fightOut 77 = .ok (.aload_n 2, 1) := by decide +kernel
theorem dX0_fightOut_78 : decode cX0_fightOut 78 = .ok (.getfield 43, 3) := by decide +kernel
theorem dX0_fightOut_81 : decode cX0_fightOut 81 = .ok (.iload 4, 2) := by decide +kernel
theorem dX0_fightOut_83 : decode cX0_fightOut 83 = .ok (.iaload, 1) := by decide +kernel
theorem dX0_fightOut_84 : decode cX0_fightOut 84 = .ok (.invokevirtual 46, 3) := by decide +kernel
theorem dX0_fightOut_87 : decode cX0_fightOut 87 = .ok (.aload_n 0, 1) := by decide +kernel
theorem dX0_fightOut_88 : decode cX0_fightOut 88 = .ok (.getfield 21, 3) := by decide +kernel
theorem dX0_fightOut_91 : decode cX0_fightOut 91 = .ok (.iload_n 1, 1) := by decide +kernel
theorem dX0_fightOut_92 : decode cX0_fightOut 92 = .ok (.iload 5, 2) := by decide +kernel
theorem dX0_fightOut_94 : decode cX0_fightOut 94 = .ok (.iastore, 1) := by decide +kernel
theorem dX0_fightOut_95 : decode cX0_fightOut 95 = .ok (.aload_n 0, 1) := by decide +kernel
theorem dX0_fightOut_96 : decode cX0_fightOut 96 = .ok (.getfield 25, 3) := by decide +kernel
theorem dX0_fightOut_99 : decode cX0_fightOut 99 = .ok (.iload_n 1, 1) := by decide +kernel
theorem dX0_fightOut_100 : decode cX0_fightOut 100 = .ok (.aload_n 2, 1) := by decide +kernel
theorem dX0_fightOut_101 : decode cX0_fightOut 101 = .ok (.getfield 43, 3) := by decide +kernel
theorem dX0_fightOut_104 : decode cX0_fightOut 104 = .ok (.iload 4, 2) := by decide +kernel
theorem dX0_fightOut_106 : decode cX0_fightOut 106 = .ok (.iaload, 1) := by decide +kernel
theorem dX0_fightOut_107 : decode cX0_fightOut 107 = .ok (.iastore, 1) := by decide +kernel
theorem dX0_fightOut_108 : decode cX0_fightOut 108 = .ok (.aload_n 0, 1) := by decide +kernel
theorem dX0_fightOut_109 : decode cX0_fightOut 109 = .ok (.dup, 1) := by decide +kernel
theorem dX0_fightOut_110 : decode cX0_fightOut 110 = .ok (.getfield 32, 3) := by decide +kernel
theorem dX0_fightOut_113 : decode cX0_fightOut 113 = .ok (.iconst 1, 1) := by decide +kernel
theorem dX0_fightOut_114 : decode cX0_fightOut 114 = .ok (.iadd, 1) := by decide +kernel
theorem dX0_fightOut_115 : decode cX0_fightOut 115 = .ok (.putfield 32, 3) := by decide +kernel
theorem dX0_fightOut_118 : decode cX0_fightOut 118 = .ok (.iinc 1 1, 3) := by decide +kernel
theorem dX0_fightOut_121 : decode cX0_fightOut 121 = .ok (.goto (-114), 3) := by decide +kernel
theorem dX0_fightOut_124 : decode cX0_fightOut 124 = .ok (.return_, 1) := by decide +kernel
theorem dX0_redo_0 : decode cX0_redo 0 = .ok (.iconst 0, 1) := by decide +kernel
theorem dX0_redo_1 : decode cX0_redo 1 = .ok (.istore_n 1, 1) := by decide +kernel
theorem dX0_redo_2 : decode cX0_redo 2 = .ok (.iload_n 1, 1) := by decide +kernel
theorem dX0_redo_3 : decode cX0_redo 3 = .ok (.aload_n 0, 1) := by decide +kernel
theorem dX0_redo_4 : decode cX0_redo 4 = .ok (.getfield 32, 3) := by decide +kernel
theorem dX0_redo_7 : decode cX0_redo 7 = .ok (.if_icmp .ge 43, 3) := by decide +kernel
theorem dX0_redo_10 : decode cX0_redo 10 = .ok (.iload_n 1, 1) := by decide +kernel
theorem dX0_redo_11 : decode cX0_redo 11 = .ok (.iconst 2, 1) := by decide +kernel
theorem dX0_redo_12 : decode cX0_redo 12 = .ok (.irem, 1) := by decide +kernel
theorem dX0_redo_13 : decode cX0_redo 13 = .ok (.ifCond .ne 10, 3) := by decide +kernel
theorem dX0_redo_16 : decode cX0_redo 16 = .ok (.aload_n 0, 1) := by decide +kernel
theorem dX0_redo_17 : decode cX0_redo 17 = .ok (.getfield 18, 3) := by decide +kernel
theorem dX0_redo_20 : decode cX0_redo 20 = .ok (.goto 7, 3) := by decide +kernel
theorem dX0_redo_23 : decode cX0_redo 23 = .ok (.aload_n 0, 1) := by decide +kernel
theorem dX0_redo_24 : decode cX0_redo 24 = .ok (.getfield 12, 3) := by decide +kernel
theorem dX0_redo_27 : decode cX0_redo 27 = .ok (.astore_n 2, 1) := by decide +kernel
theorem dX0_redo_28 : decode cX0_redo 28 = .ok (.aload_n 2, 1) := by decide +kernel
theorem dX0_redo_29 : decode cX0_redo 29 = .ok (.aload_n 0, 1) := by decide +kernel
theorem dX0_redo_30 : decode cX0_redo 30 = .ok (.getfield 21, 3) := by decide +kernel
theorem dX0_redo_33 : decode cX0_redo 33 = .ok (.iload_n 1, 1) := by decide +kernel
theorem dX0_redo_34 : decode cX0_redo 34 = .ok (.iaload, 1) := by decide +kernel
theorem dX0_redo_35 : decode cX0_redo 35 = .ok (.aload_n 0, 1) := by decide +kernel
theorem dX0_redo_36 : decode cX0_redo 36 = .ok (.getfield 25, 3) := by decide +kernel
theorem dX0_redo_39 : decode cX0_redo 39 = .ok (.iload_n 1, 1) := by decide +kernel
theorem dX0_redo_40 : decode cX0_redo 40 = .ok (.iaload, 1) := by decide +kernel
theorem dX0_redo_41 : decode cX0_redo 41 = .ok (.invokevirtual 46, 3) := by decide +kernel
theorem dX0_redo_44 : decode cX0_redo 44 = .ok (.iinc 1 1, 3) := by decide +kernel
theorem dX0_redo_47 : decode cX0_redo 47 = .ok (.goto (-45), 3) := by decide +kernel
theorem dX0_redo_50 : decode cX0_redo 50 = .ok (.return_, 1) := by decide +kernel
theorem dX0_result_0 : decode cX0_result 0 = .ok (.aload_n 0, 1) := by decide +kernel
theorem dX0_result_1 : decode cX0_result 1 = .ok (.getfield 12, 3) := by decide +kernel
theorem dX0_result_4 : decode cX0_result 4 = .ok (.invokevirtual 50, 3) := by decide +kernel
theorem dX0_result_7 : decode cX0_result 7 = .ok (.aload_n 0, 1) := by decide +kernel
theorem dX0_result_8 : decode cX0_result 8 = .ok (.getfield 18, 3) := by decide +kernel
theorem dX0_result_11 : decode cX0_result 11 = .ok (.invokevirtual 50, 3) := by decide +kernel
theorem dX0_result_14 : decode cX0_result 14 = .ok (.isub, 1) := by decide +kernel
theorem dX0_result_15 : decode cX0_result 15 = .ok (.ireturn, 1) := by decide +kernel
theorem dX1_init_0 : decode cX1_init 0 = .ok (.aload_n 0, 1) := by decide +kernel
theorem dX1_init_1 : decode cX1_init 1 = .ok (.invokespecial 3, 3) := by decide +kernel
theorem dX1_init_4 : decode cX1_init 4 = .ok (.aload_n 0, 1) := by decide +kernel
theorem dX1_init_5 : decode cX1_init 5 = .ok (.bipush 100, 2) := by decide +kernel
theorem dX1_init_7 : decode cX1_init 7 = .ok (.newarray .int, 2) := by decide +kernel
theorem dX1_init_9 : decode cX1_init 9 = .ok (.putfield 9, 3) := by decide +kernel
theorem dX1_init_12 : decode cX1_init 12 = .ok (.return_, 1) := by decide +kernel
theorem dX1_append_0 : decode cX1_append 0 = .ok (.aload_n 0, 1) := by decide +kernel
theorem dX1_append_1 : decode cX1_append 1 = .ok (.getfield 15, 3) := by decide +kernel
theorem dX1_append_4 : decode cX1_append 4 = .ok (.bipush 100, 2) := by decide +kernel
theorem dX1_append_6 : decode cX1_append 6 = .ok (.if_icmp .lt 5, 3) := by decide +kernel
theorem dX1_append_9 : decode cX1_append 9 = .ok (.iconst 0, 1) := by decide +kernel
theorem dX1_append_10 : decode cX1_append 10 = .ok (.ireturn, 1) := by decide +kernel
theorem dX1_append_11 : decode cX1_append 11 = .ok (.aload_n 0, 1) := by decide +kernel
theorem dX1_append_12 : decode cX1_append 12 = .ok (.getfield 9, 3) := by decide +kernel
theorem dX1_append_15 : decode cX1_append 15 = .ok (.aload_n 0, 1) := by decide +kernel
theorem dX1_append_16 : decode cX1_append 16 = .ok (.getfield 19, 3) := by decide +kernel
theorem dX1_append_19 : decode cX1_append 19 = .ok (.aload_n 0, 1) := by decide +kernel
theorem dX1_append_20 : decode cX1_append 20 = .ok (.getfield 15, 3) := by decide +kernel
theorem dX1_append_23 : decode cX1_append 23 = .ok (.iadd, 1) := by decide +kernel
theorem dX1_append_24 : decode cX1_append 24 = .ok (.bipush 100, 2) := by decide +kernel
theorem dX1_append_26 : decode cX1_append 26 = .ok (.irem, 1) := by decide +kernel
theorem dX1_append_27 : decode cX1_append 27 = .ok (.iload_n 1, 1) := by decide +kernel
theorem dX1_append_28 : decode cX1_append 28 = .ok (.iastore, 1) := by decide +kernel
theorem dX1_append_29 : decode cX1_append 29 = .ok (.aload_n 0, 1) := by decide +kernel
theorem dX1_append_30 : decode cX1_append 30 = .ok (.dup, 1) := by decide +kernel
theorem dX1_append_31 : decode cX1_append 31 = .ok (.getfield 15, 3) := by decide +kernel
theorem dX1_append_34 : decode cX1_append 34 = .ok (.iconst 1, 1) := by decide +kernel
theorem dX1_append_35 : decode cX1_append 35 = .ok (.iadd, 1) := by decide +kernel
theorem dX1_append_36 : decode cX1_append 36 = .ok (.putfield 15, 3) := by decide +kernel
theorem dX1_append_39 : decode cX1_append 39 = .ok (.iconst 1, 1) := by decide +kernel
theorem dX1_append_40 : decode cX1_append 40 = .ok (.ireturn, 1) := by decide +kernel
theorem dX1_take_0 : decode cX1_take 0 = .ok (.aload_n 0, 1) := by decide +kernel
theorem dX1_take_1 : decode cX1_take 1 = .ok (.getfield 15, 3) := by decide +kernel
theorem dX1_take_4 : decode cX1_take 4 = .ok (.ifCond .ne 5, 3) := by decide +kernel
theorem dX1_take_7 : decode cX1_take 7 = .ok (.iconst 0, 1) := by decide +kernel
theorem dX1_take_8 : decode cX1_take 8 = .ok (.ireturn, 1) := by decide +kernel
theorem dX1_take_9 : decode cX1_take 9 = .ok (.aload_n 0, 1) := by decide +kernel
theorem dX1_take_10 : decode cX1_take 10 = .ok (.getfield 9, 3) := by decide +kernel
theorem dX1_take_13 : decode cX1_take 13 = .ok (.aload_n 0, 1) := by decide +kernel
theorem dX1_take_14 : decode cX1_take 14 = .ok (.getfield 19, 3) := by decide +kernel
theorem dX1_take_17 : decode cX1_take 17 = .ok (.iaload, 1) := by decide +kernel
theorem dX1_take_18 : decode cX1_take 18 = .ok (.istore_n 1, 1) := by decide +kernel
theorem dX1_take_19 : decode cX1_take 19 = .ok (.aload_n 0, 1) := by decide +kernel
theorem dX1_take_20 : decode cX1_take 20 = .ok (.aload_n 0, 1) := by decide +kernel
theorem dX1_take_21 : decode cX1_take 21 = .ok (.getfield 19, 3) := by decide +kernel
theorem dX1_take_24 : decode cX1_take 24 = .ok (.iconst 1, 1) := by decide +kernel
theorem dX1_take_25 : decode cX1_take 25 = .ok (.iadd, 1) := by decide +kernel
theorem dX1_take_26 : decode cX1_take 26 = .ok (.bipush 100, 2) := by decide +kernel
theorem dX1_take_28 : decode cX1_take 28 = .ok (.irem, 1) := by decide +kernel
theorem dX1_take_29 : decode cX1_take 29 = .ok (.putfield 19, 3) := by decide +kernel
theorem dX1_take_32 : decode cX1_take 32 = .ok (.aload_n 0, 1) := by decide +kernel
theorem dX1_take_33 : decode cX1_take 33 = .ok (.dup, 1) := by decide +kernel
theorem dX1_take_34 : decode cX1_take 34 = .ok (.getfield 15, 3) := by decide +kernel
theorem dX1_take_37 : decode cX1_take 37 = .ok (.iconst 1, 1) := by decide +kernel
theorem dX1_take_38 : decode cX1_take 38 = .ok (.isub, 1) := by decide +kernel
theorem dX1_take_39 : decode cX1_take 39 = .ok (.putfield 15, 3) := by decide +kernel
theorem dX1_take_42 : decode cX1_take 42 = .ok (.iload_n 1, 1) := by decide +kernel
theorem dX1_take_43 : decode cX1_take 43 = .ok (.ireturn, 1) := by decide +kernel
theorem dX2_init_0 : decode cX2_init 0 = .ok (.aload_n 0, 1) := by decide +kernel
theorem dX2_init_1 : decode cX2_init 1 = .ok (.invokespecial 3, 3) := by decide +kernel
theorem dX2_init_4 : decode cX2_init 4 = .ok (.aload_n 0, 1) := by decide +kernel
theorem dX2_init_5 : decode cX2_init 5 = .ok (.bipush 10, 2) := by decide +kernel
theorem dX2_init_7 : decode cX2_init 7 = .ok (.putfield 9, 3) := by decide +kernel
theorem dX2_init_10 : decode cX2_init 10 = .ok (.aload_n 0, 1) := by decide +kernel
theorem dX2_init_11 : decode cX2_init 11 = .ok (.iconst 1, 1) := by decide +kernel
theorem dX2_init_12 : decode cX2_init 12 = .ok (.putfield 15, 3) := by decide +kernel
theorem dX2_init_15 : decode cX2_init 15 = .ok (.aload_n 0, 1) := by decide +kernel
theorem dX2_init_16 : decode cX2_init 16 = .ok (.bipush 20, 2) := by decide +kernel
theorem dX2_init_18 : decode cX2_init 18 = .ok (.putfield 18, 3) := by decide +kernel
theorem dX2_init_21 : decode cX2_init 21 = .ok (.aload_n 0, 1) := by decide +kernel
theorem dX2_init_22 : decode cX2_init 22 = .ok (.iconst 3, 1) := by decide +kernel
theorem dX2_init_23 : decode cX2_init 23 = .ok (.newarray .int, 2) := by decide +kernel
theorem dX2_init_25 : decode cX2_init 25 = .ok (.putfield 21, 3) := by decide +kernel
theorem dX2_init_28 : decode cX2_init 28 = .ok (.aload_n 0, 1) := by decide +kernel
theorem dX2_init_29 : decode cX2_init 29 = .ok (.new 25, 3) := by decide +kernel
theorem dX2_init_32 : decode cX2_init 32 = .ok (.dup, 1) := by decide +kernel
theorem dX2_init_33 : decode cX2_init 33 = .ok (.bipush 6, 2) := by decide +kernel
theorem dX2_init_35 : decode cX2_init 35 = .ok (.invokespecial 27, 3) := by decide +kernel
theorem dX2_init_38 : decode cX2_init 38 = .ok (.putfield 30, 3) := by decide +kernel
theorem dX2_init_41 : decode cX2_init 41 = .ok (.aload_n 0, 1) := by decide +kernel
theorem dX2_init_42 : decode cX2_init 42 = .ok (.new 25, 3) := by decide +kernel
theorem dX2_init_45 : decode cX2_init 45 = .ok (.dup, 1) := by decide +kernel
theorem dX2_init_46 : decode cX2_init 46 = .ok (.iconst 5, 1) := by decide +kernel
theorem dX2_init_47 : decode cX2_init 47 = .ok (.invokespecial 27, 3) := by decide +kernel
theorem dX2_init_50 : decode cX2_init 50 = .ok (.putfield 34, 3) := by decide +kernel
theorem dX2_init_53 : decode cX2_init 53 = .ok (.iconst 0, 1) := by decide +kernel
theorem dX2_init_54 : decode cX2_init 54 = .ok (.istore_n 1, 1) := by decide +kernel
theorem dX2_init_55 : decode cX2_init 55 = .ok (.iload_n 1, 1) := by decide +kernel
theorem dX2_init_56 : decode cX2_init 56 = .ok (.iconst 3, 1) := by decide +kernel
theorem dX2_init_57 : decode cX2_init 57 = .ok (.if_icmp .ge 16, 3) := by decide +kernel
theorem dX2_init_60 : decode cX2_init 60 = .ok (.aload_n 0, 1) := by decide +kernel
theorem dX2_init_61 : decode cX2_init 61 = .ok (.getfield 21, 3) := by decide +kernel
theorem dX2_init_64 : decode cX2_init 64 = .ok (.iload_n 1, 1) := by decide +kernel
theorem dX2_init_65 : decode cX2_init 65 = .ok (.iconst (-1), 1) := by decide +kernel
theorem dX2_init_66 : decode cX2_init 66 = .ok (.iastore, 1) := by decide +kernel
theorem dX2_init_67 : decode cX2_init 67 = .ok (.iinc 1 1, 3) := by decide +kernel
theorem dX2_init_70 : decode cX2_init 70 = .ok (.goto (-15), 3) := by decide +kernel
theorem dX2_init_73 : decode cX2_init 73 = .ok (.return_, 1) := by decide +kernel
theorem dX2_addGold_0 : decode cX2_addGold 0 = .ok (.aload_n 0, 1) := by decide +kernel
theorem dX2_addGold_1 : decode cX2_addGold 1 = .ok (.bipush 100, 2) := by decide +kernel
theorem dX2_addGold_3 : decode cX2_addGold 3 = .ok (.aload_n 0, 1) := by decide +kernel
theorem dX2_addGold_4 : decode cX2_addGold 4 = .ok (.getfield 9, 3) := by decide +kernel
theorem dX2_addGold_7 : decode cX2_addGold 7 = .ok (.iload_n 1, 1) := by decide +kernel
theorem dX2_addGold_8 : decode cX2_addGold 8 = .ok (.iadd, 1) := by decide +kernel
theorem dX2_addGold_9 : decode cX2_addGold 9 = .ok (.invokestatic 37, 3) := by decide +kernel
theorem dX2_addGold_12 : decode cX2_addGold 12 = .ok (.putfield 9, 3) := by decide +kernel
theorem dX2_addGold_15 : decode cX2_addGold 15 = .ok (.return_, 1) := by decide +kernel
theorem dX2_earn_0 : decode cX2_earn 0 = .ok (.iconst 3, 1) := by decide +kernel
theorem dX2_earn_1 : decode cX2_earn 1 = .ok (.aload_n 0, 1) := by decide +kernel
theorem dX2_earn_2 : decode cX2_earn 2 = .ok (.getfield 9, 3) := by decide +kernel
theorem dX2_earn_5 : decode cX2_earn 5 = .ok (.bipush 10, 2) := by decide +kernel
theorem dX2_earn_7 : decode cX2_earn 7 = .ok (.idiv, 1) := by decide +kernel
theorem dX2_earn_8 : decode cX2_earn 8 = .ok (.invokestatic 37, 3) := by decide +kernel
theorem dX2_earn_11 : decode cX2_earn 11 = .ok (.istore_n 1, 1) := by decide +kernel
theorem dX2_earn_12 : decode cX2_earn 12 = .ok (.aload_n 0, 1) := by decide +kernel
theorem dX2_earn_13 : decode cX2_earn 13 = .ok (.getfield 43, 3) := by decide +kernel
theorem dX2_earn_16 : decode cX2_earn 16 = .ok (.iconst 1, 1) := by decide +kernel
theorem dX2_earn_17 : decode cX2_earn 17 = .ok (.if_icmp .gt 11, 3) := by decide +kernel
theorem dX2_earn_20 : decode cX2_earn 20 = .ok (.aload_n 0, 1) := by decide +kernel
theorem dX2_earn_21 : decode cX2_earn 21 = .ok (.getfield 43, 3) := by decide +kernel
theorem dX2_earn_24 : decode cX2_earn 24 = .ok (.iconst (-1), 1) := by decide +kernel
theorem dX2_earn_25 : decode cX2_earn 25 = .ok (.if_icmp .ge 7, 3) := by decide +kernel
theorem dX2_earn_28 : decode cX2_earn 28 = .ok (.iconst 1, 1) := by decide +kernel
theorem dX2_earn_29 : decode cX2_earn 29 = .ok (.goto 4, 3) := by decide +kernel
theorem dX2_earn_32 : decode cX2_earn 32 = .ok (.iconst 0, 1) := by decide +kernel
theorem dX2_earn_33 : decode cX2_earn 33 = .ok (.istore_n 2, 1) := by decide +kernel
theorem dX2_earn_34 : decode cX2_earn 34 = .ok (.aload_n 0, 1) := by decide +kernel
theorem dX2_earn_35 : decode cX2_earn 35 = .ok (.iconst 3, 1) := by decide +kernel
theorem dX2_earn_36 : decode cX2_earn 36 = .ok (.iload_n 1, 1) := by decide +kernel
theorem dX2_earn_37 : decode cX2_earn 37 = .ok (.iadd, 1) := by decide +kernel
theorem dX2_earn_38 : decode cX2_earn 38 = .ok (.iload_n 2, 1) := by decide +kernel
theorem dX2_earn_39 : decode cX2_earn 39 = .ok (.iadd, 1) := by decide +kernel
theorem dX2_earn_40 : decode cX2_earn 40 = .ok (.invokevirtual 46, 3) := by decide +kernel
theorem dX2_earn_43 : decode cX2_earn 43 = .ok (.return_, 1) := by decide +kernel
theorem dX2_win_0 : decode cX2_win 0 = .ok (.aload_n 0, 1) := by decide +kernel
theorem dX2_win_1 : decode cX2_win 1 = .ok (.aload_n 0, 1) := by decide +kernel
theorem dX2_win_2 : decode cX2_win 2 = .ok (.getfield 43, 3) := by decide +kernel
theorem dX2_win_5 : decode cX2_win 5 = .ok (.ifCond .le 12, 3) := by decide +kernel
theorem dX2_win_8 : decode cX2_win 8 = .ok (.aload_n 0, 1) := by decide +kernel
theorem dX2_win_9 : decode cX2_win 9 = .ok (.getfield 43, 3) := by decide +kernel
theorem dX2_win_12 : decode cX2_win 12 = .ok (.iconst 1, 1) := by decide +kernel
theorem dX2_win_13 : decode cX2_win 13 = .ok (.iadd, 1) := by decide +kernel
theorem dX2_win_14 : decode cX2_win 14 = .ok (.goto 4, 3) := by decide +kernel
theorem dX2_win_17 : decode cX2_win 17 = .ok (.iconst 1, 1) := by decide +kernel
theorem dX2_win_18 : decode cX2_win 18 = .ok (.putfield 43, 3) := by decide +kernel
theorem dX2_win_21 : decode cX2_win 21 = .ok (.return_, 1) := by decide +kernel
theorem dX2_lose_0 : decode cX2_lose 0 = .ok (.aload_n 0, 1) := by decide +kernel
theorem dX2_lose_1 : decode cX2_lose 1 = .ok (.aload_n 0, 1) := by decide +kernel
theorem dX2_lose_2 : decode cX2_lose 2 = .ok (.getfield 43, 3) := by decide +kernel
theorem dX2_lose_5 : decode cX2_lose 5 = .ok (.ifCond .ge 12, 3) := by decide +kernel
theorem dX2_lose_8 : decode cX2_lose 8 = .ok (.aload_n 0, 1) := by decide +kernel
theorem dX2_lose_9 : decode cX2_lose 9 = .ok (.getfield 43, 3) := by decide +kernel
theorem dX2_lose_12 : decode cX2_lose 12 = .ok (.iconst 1, 1) := by decide +kernel
theorem dX2_lose_13 : decode cX2_lose 13 = .ok (.isub, 1) := by decide +kernel
theorem dX2_lose_14 : decode cX2_lose 14 = .ok (.goto 4, 3) := by decide +kernel
theorem dX2_lose_17 : decode cX2_lose 17 = .ok (.iconst (-1), 1) := by decide +kernel
theorem dX2_lose_18 : decode cX2_lose 18 = .ok (.putfield 43, 3) := by decide +kernel
theorem dX2_lose_21 : decode cX2_lose 21 = .ok (.aload_n 0, 1) := by decide +kernel
theorem dX2_lose_22 : decode cX2_lose 22 = .ok (.dup, 1) := by decide +kernel
theorem dX2_lose_23 : decode cX2_lose 23 = .ok (.getfield 18, 3) := by decide +kernel
theorem dX2_lose_26 : decode cX2_lose 26 = .ok (.iload_n 1, 1) := by decide +kernel
theorem dX2_lose_27 : decode cX2_lose 27 = .ok (.aload_n 0, 1) := by decide +kernel
theorem dX2_lose_28 : decode cX2_lose 28 = .ok (.getfield 18, 3) := by decide +kernel
theorem dX2_lose_31 : decode cX2_lose 31 = .ok (.invokestatic 37, 3) := by decide +kernel
theorem dX2_lose_34 : decode cX2_lose 34 = .ok (.isub, 1) := by decide +kernel
theorem dX2_lose_35 : decode cX2_lose 35 = .ok (.putfield 18, 3) := by decide +kernel
theorem dX2_lose_38 : decode cX2_lose 38 = .ok (.return_, 1) := by decide +kernel
theorem dX2_unitsHeld_0 : decode cX2_unitsHeld 0 = .ok (.aload_n 0, 1) := by decide +kernel
theorem dX2_unitsHeld_1 : decode cX2_unitsHeld 1 = .ok (.getfield 30, 3) := by decide +kernel
theorem dX2_unitsHeld_4 : decode cX2_unitsHeld 4 = .ok (.iload_n 1, 1) := by decide +kernel
theorem dX2_unitsHeld_5 : decode cX2_unitsHeld 5 = .ok (.invokevirtual 49, 3) := by decide +kernel
theorem dX2_unitsHeld_8 : decode cX2_unitsHeld 8 = .ok (.aload_n 0, 1) := by decide +kernel
theorem dX2_unitsHeld_9 : decode cX2_unitsHeld 9 = .ok (.getfield 34, 3) := by decide +kernel
theorem dX2_unitsHeld_12 : decode cX2_unitsHeld 12 = .ok (.iload_n 1, 1) := by decide +kernel
theorem dX2_unitsHeld_13 : decode cX2_unitsHeld 13 = .ok (.invokevirtual 49, 3) := by decide +kernel
theorem dX2_unitsHeld_16 : decode cX2_unitsHeld 16 = .ok (.iadd, 1) := by decide +kernel
theorem dX2_unitsHeld_17 : decode cX2_unitsHeld 17 = .ok (.istore_n 2, 1) := by decide +kernel
theorem dX2_unitsHeld_18 : decode cX2_unitsHeld 18 = .ok (.iconst 0, 1) := by decide +kernel
theorem dX2_unitsHeld_19 : decode cX2_unitsHeld 19 = .ok (.istore_n 3, 1) := by decide +kernel
theorem dX2_unitsHeld_20 : decode cX2_unitsHeld 20 = .ok (.iload_n 3, 1) := by decide +kernel
theorem dX2_unitsHeld_21 : decode cX2_unitsHeld 21 = .ok (.iconst 3, 1) := by decide +kernel
theorem dX2_unitsHeld_22 : decode cX2_unitsHeld 22 = .ok (.if_icmp .ge 22, 3) := by decide +kernel
theorem dX2_unitsHeld_25 : decode cX2_unitsHeld 25 = .ok (.aload_n 0, 1) := by decide +kernel
theorem dX2_unitsHeld_26 : decode cX2_unitsHeld 26 = .ok (.getfield 21, 3) := by decide +kernel
theorem dX2_unitsHeld_29 : decode cX2_unitsHeld 29 = .ok (.iload_n 3, 1) := by decide +kernel
theorem dX2_unitsHeld_30 : decode cX2_unitsHeld 30 = .ok (.iaload, 1) := by decide +kernel
theorem dX2_unitsHeld_31 : decode cX2_unitsHeld 31 = .ok (.iload_n 1, 1) := by decide +kernel
theorem dX2_unitsHeld_32 : decode cX2_unitsHeld 32 = .ok (.if_icmp .ne 6, 3) := by decide +kernel
theorem dX2_unitsHeld_35 : decode cX2_unitsHeld 35 = .ok (.iinc 2 1, 3) := by decide +kernel
theorem dX2_unitsHeld_38 : decode cX2_unitsHeld 38 = .ok (.iinc 3 1, 3) := by decide +kernel
theorem dX2_unitsHeld_41 : decode cX2_unitsHeld 41 = .ok (.goto (-21), 3) := by decide +kernel
theorem dX2_unitsHeld_44 : decode cX2_unitsHeld 44 = .ok (.iload_n 2, 1) := by decide +kernel
theorem dX2_unitsHeld_45 : decode cX2_unitsHeld 45 = .ok (.ireturn, 1) := by decide +kernel
theorem dX2_mergeThrees_0 : decode cX2_mergeThrees 0 = .ok (.iconst 0, 1) := by decide +kernel
theorem dX2_mergeThrees_1 : decode cX2_mergeThrees 1 = .ok (.istore_n 1, 1) := by decide +kernel
theorem dX2_mergeThrees_2 : decode cX2_mergeThrees 2 = .ok (.iload_n 1, 1) := by decide +kernel
theorem dX2_mergeThrees_3 : decode cX2_mergeThrees 3 = .ok (.bipush 11, 2) := by decide +kernel
theorem dX2_mergeThrees_5 : decode cX2_mergeThrees 5 = .ok (.if_icmp .ge 17, 3) := by decide +kernel
theorem dX2_mergeThrees_8 : decode cX2_mergeThrees 8 = .ok (.aload_n 0, 1) := by decide +kernel
theorem dX2_mergeThrees_9 : decode cX2_mergeThrees 9 = .ok (.invokevirtual 53, 3) := by decide +kernel
theorem dX2_mergeThrees_12 : decode cX2_mergeThrees 12 = .ok (.ifCond .ne 4, 3) := by decide +kernel
theorem dX2_mergeThrees_15 : decode cX2_mergeThrees 15 = .ok (.return_, 1) := by decide +kernel
theorem dX2_mergeThrees_16 : decode cX2_mergeThrees 16 = .ok (.iinc 1 1, 3) := by decide +kernel
theorem dX2_mergeThrees_19 : decode cX2_mergeThrees 19 = .ok (.goto (-17), 3) := by decide +kernel
theorem dX2_mergeThrees_22 : decode cX2_mergeThrees 22 = .ok (.return_, 1) := by decide +kernel
theorem dX2_mergeFirstThree_0 : decode cX2_mergeFirstThree 0 = .ok (.iconst 0, 1) := by decide +kernel
theorem dX2_mergeFirstThree_1 : decode cX2_mergeFirstThree 1 = .ok (.istore_n 1, 1) := by decide +kernel
theorem dX2_mergeFirstThree_2 : decode cX2_mergeFirstThree 2 = .ok (.iload_n 1, 1) := by decide +kernel
theorem dX2_mergeFirstThree_3 : decode cX2_mergeFirstThree 3 = .ok (.bipush 9, 2) := by decide +kernel
theorem dX2_mergeFirstThree_5 : decode cX2_mergeFirstThree 5 = .ok (.if_icmp .ge 53, 3) := by decide +kernel
theorem dX2_mergeFirstThree_8 : decode cX2_mergeFirstThree 8 = .ok (.iconst 1, 1) := by decide +kernel
theorem dX2_mergeFirstThree_9 : decode cX2_mergeFirstThree 9 = .ok (.istore_n 2, 1) := by decide +kernel
theorem dX2_mergeFirstThree_10 : decode cX2_mergeFirstThree 10 = .ok (.iload_n 2, 1) := by decide +kernel
theorem dX2_mergeFirstThree_11 : decode cX2_mergeFirstThree 11 = .ok (.iconst 3, 1) := by decide +kernel
theorem dX2_mergeFirstThree_12 : decode cX2_mergeFirstThree 12 = .ok (.if_icmp .ge 40, 3) := by decide +kernel
theorem dX2_mergeFirstThree_15 : decode cX2_mergeFirstThree 15 = .ok (.aload_n 0, 1) := by decide +kernel
theorem dX2_mergeFirstThree_16 : decode cX2_mergeFirstThree 16 = .ok (.getfield 34, 3) := by decide +kernel
theorem dX2_mergeFirstThree_19 : decode cX2_mergeFirstThree 19 = .ok (.iload_n 1, 1) := by decide +kernel
theorem dX2_mergeFirstThree_20 : decode cX2_mergeFirstThree 20 = .ok (.iload_n 2, 1) := by decide +kernel
theorem dX2_mergeFirstThree_21 : decode cX2_mergeFirstThree 21 = .ok (.invokevirtual 57, 3) := by decide +kernel
theorem dX2_mergeFirstThree_24 : decode cX2_mergeFirstThree 24 = .ok (.aload_n 0, 1) := by decide +kernel
theorem dX2_mergeFirstThree_25 : decode cX2_mergeFirstThree 25 = .ok (.getfield 30, 3) := by decide +kernel
theorem dX2_mergeFirstThree_28 : decode cX2_mergeFirstThree 28 = .ok (.iload_n 1, 1) := by decide +kernel
theorem dX2_mergeFirstThree_29 : decode cX2_mergeFirstThree 29 = .ok (.iload_n 2, 1) := by decide +kernel
theorem dX2_mergeFirstThree_30 : decode cX2_mergeFirstThree 30 = .ok (.invokevirtual 57, 3) := by decide +kernel
theorem dX2_mergeFirstThree_33 : decode cX2_mergeFirstThree 33 = .ok (.iadd, 1) := by decide +kernel
theorem dX2_mergeFirstThree_34 : decode cX2_mergeFirstThree 34 = .ok (.iconst 3, 1) := by decide +kernel
theorem dX2_mergeFirstThree_35 : decode cX2_mergeFirstThree 35 = .ok (.if_icmp .lt 11, 3) := by decide +kernel
theorem dX2_mergeFirstThree_38 : decode cX2_mergeFirstThree 38 = .ok (.aload_n 0, 1) := by decide +kernel
theorem dX2_mergeFirstThree_39 : decode cX2_mergeFirstThree 39 = .ok (.iload_n 1, 1) := by decide +kernel
theorem dX2_mergeFirstThree_40 : decode cX2_mergeFirstThree 40 = .ok (.iload_n 2, 1) := by decide +kernel
theorem dX2_mergeFirstThree_41 : decode cX2_mergeFirstThree 41 = .ok (.invokevirtual 60, 3) := by decide +kernel
theorem dX2_mergeFirstThree_44 : decode cX2_mergeFirstThree 44 = .ok (.iconst 1, 1) := by decide +kernel
theorem dX2_mergeFirstThree_45 : decode cX2_mergeFirstThree 45 = .ok (.ireturn, 1) := by decide +kernel
theorem dX2_mergeFirstThree_46 : decode cX2_mergeFirstThree 46 = .ok (.iinc 2 1, 3) := by decide +kernel
theorem dX2_mergeFirstThree_49 : decode cX2_mergeFirstThree 49 = .ok (.goto (-39), 3) := by decide +kernel
theorem dX2_mergeFirstThree_52 : decode cX2_mergeFirstThree 52 = .ok (.iinc 1 1, 3) := by decide +kernel
theorem dX2_mergeFirstThree_55 : decode cX2_mergeFirstThree 55 = .ok (.goto (-53), 3) := by decide +kernel
theorem dX2_mergeFirstThree_58 : decode cX2_mergeFirstThree 58 = .ok (.iconst 0, 1) := by decide +kernel
theorem dX2_mergeFirstThree_59 : decode cX2_mergeFirstThree 59 = .ok (.ireturn, 1) := by decide +kernel
theorem dX2_mergeThree_0 : decode cX2_mergeThree 0 = .ok (.aload_n 0, 1) := by decide +kernel
theorem dX2_mergeThree_1 : decode cX2_mergeThree 1 = .ok (.iload_n 1, 1) := by decide +kernel
theorem dX2_mergeThree_2 : decode cX2_mergeThree 2 = .ok (.iload_n 2, 1) := by decide +kernel
theorem dX2_mergeThree_3 : decode cX2_mergeThree 3 = .ok (.invokevirtual 64, 3) := by decide +kernel
theorem dX2_mergeThree_6 : decode cX2_mergeThree 6 = .ok (.astore_n 3, 1) := by decide +kernel
theorem dX2_mergeThree_7 : decode cX2_mergeThree 7 = .ok (.aload_n 3, 1) := by decide +kernel
theorem dX2_mergeThree_8 : decode cX2_mergeThree 8 = .ok (.iload_n 1, 1) := by decide +kernel
theorem dX2_mergeThree_9 : decode cX2_mergeThree 9 = .ok (.iload_n 2, 1) := by decide +kernel
theorem dX2_mergeThree_10 : decode cX2_mergeThree 10 = .ok (.invokevirtual 68, 3) := by decide +kernel
theorem dX2_mergeThree_13 : decode cX2_mergeThree 13 = .ok (.istore 4, 2) := by decide +kernel
theorem dX2_mergeThree_15 : decode cX2_mergeThree 15 = .ok (.iload 4, 2) := by decide +kernel
theorem dX2_mergeThree_17 : decode cX2_mergeThree 17 = .ok (.iconst (-1), 1) := by decide +kernel
theorem dX2_mergeThree_18 : decode cX2_mergeThree 18 = .ok (.if_icmp .eq 14, 3) := by decide +kernel
theorem dX2_mergeThree_21 : decode cX2_mergeThree 21 = .ok (.aload_n 3, 1) := by decide +kernel
theorem dX2_mergeThree_22 : decode cX2_mergeThree 22 = .ok (.getfield 71, 3) := by decide +kernel
theorem dX2_mergeThree_25 : decode cX2_mergeThree 25 = .ok (.iload 4, 2) := by decide +kernel
theorem dX2_mergeThree_27 : decode cX2_mergeThree 27 = .ok (.dup2, 1) := by decide +kernel
theorem dX2_mergeThree_28 : decode cX2_mergeThree 28 = .ok (.iaload, 1) := by decide +kernel
theorem dX2_mergeThree_29 : decode cX2_mergeThree 29 = .ok (.iconst 1, 1) := by decide +kernel
theorem dX2_mergeThree_30 : decode cX2_mergeThree 30 = .ok (.iadd, 1) := by decide +kernel
theorem dX2_mergeThree_31 : decode cX2_mergeThree 31 = .ok (.iastore, 1) := by decide +kernel
theorem dX2_mergeThree_32 : decode cX2_mergeThree 32 = .ok (.iconst 0, 1) := by decide +kernel
theorem dX2_mergeThree_33 : decode cX2_mergeThree 33 = .ok (.istore 5, 2) := by decide +kernel
theorem dX2_mergeThree_35 : decode cX2_mergeThree 35 = .ok (.iload 5, 2) := by decide +kernel
theorem dX2_mergeThree_37 : decode cX2_mergeThree 37 = .ok (.iconst 2, 1) := by decide +kernel
theorem dX2_mergeThree_38 : decode cX2_mergeThree 38 = .ok (.if_icmp .ge 29, 3) := by decide +kernel
theorem dX2_mergeThree_41 : decode cX2_mergeThree 41 = .ok (.aload_n 0, 1) := by decide +kernel
theorem dX2_mergeThree_42 : decode cX2_mergeThree 42 = .ok (.iload_n 1, 1) := by decide +kernel
theorem dX2_mergeThree_43 : decode cX2_mergeThree 43 = .ok (.iload_n 2, 1) := by decide +kernel
theorem dX2_mergeThree_44 : decode cX2_mergeThree 44 = .ok (.invokevirtual 64, 3) := by decide +kernel
theorem dX2_mergeThree_47 : decode cX2_mergeThree 47 = .ok (.astore 6, 2) := by decide +kernel
theorem dX2_mergeThree_49 : decode cX2_mergeThree 49 = .ok (.aload 6, 2) := by decide +kernel
theorem dX2_mergeThree_51 : decode cX2_mergeThree 51 = .ok (.aload 6, 2) := by decide +kernel
theorem dX2_mergeThree_53 : decode cX2_mergeThree 53 = .ok (.iload_n 1, 1) := by decide +kernel
theorem dX2_mergeThree_54 : decode cX2_mergeThree 54 = .ok (.iload_n 2, 1) := by decide +kernel
theorem dX2_mergeThree_55 : decode cX2_mergeThree 55 = .ok (.invokevirtual 68, 3) := by decide +kernel
theorem dX2_mergeThree_58 : decode cX2_mergeThree 58 = .ok (.invokevirtual 74, 3) := by decide +kernel
theorem dX2_mergeThree_61 : decode cX2_mergeThree 61 = .ok (.iinc 5 1, 3) := by decide +kernel
theorem dX2_mergeThree_64 : decode cX2_mergeThree 64 = .ok (.goto (-29), 3) := by decide +kernel
theorem dX2_mergeThree_67 : decode cX2_mergeThree 67 = .ok (.return_, 1) := by decide +kernel
theorem dX2_rowOfFirst_0 : decode cX2_rowOfFirst 0 = .ok (.aload_n 0, 1) := by decide +kernel
theorem dX2_rowOfFirst_1 : decode cX2_rowOfFirst 1 = .ok (.getfield 34, 3) := by decide +kernel
theorem dX2_rowOfFirst_4 : decode cX2_rowOfFirst 4 = .ok (.iload_n 1, 1) := by decide +kernel
theorem dX2_rowOfFirst_5 : decode cX2_rowOfFirst 5 = .ok (.iload_n 2, 1) := by decide +kernel
theorem dX2_rowOfFirst_6 : decode cX2_rowOfFirst 6 = .ok (.invokevirtual 68, 3) := by decide +kernel
theorem dX2_rowOfFirst_9 : decode cX2_rowOfFirst 9 = .ok (.iconst (-1), 1) := by decide +kernel
theorem dX2_rowOfFirst_10 : decode cX2_rowOfFirst 10 = .ok (.if_icmp .eq 10, 3) := by decide +kernel
theorem dX2_rowOfFirst_13 : decode cX2_rowOfFirst 13 = .ok (.aload_n 0, 1) := by decide +kernel
theorem dX2_rowOfFirst_14 : decode cX2_rowOfFirst 14 = .ok (.getfield 34, 3) := by decide +kernel
theorem dX2_rowOfFirst_17 : decode cX2_rowOfFirst 17 = .ok (.goto 7, 3) := by decide +kernel
theorem dX2_rowOfFirst_20 : decode cX2_rowOfFirst 20 = .ok (.aload_n 0, 1) := by decide +kernel
theorem dX2_rowOfFirst_21 : decode cX2_rowOfFirst 21 = .ok (.getfield 30, 3) := by decide +kernel
theorem dX2_rowOfFirst_24 : decode cX2_rowOfFirst 24 = .ok (.areturn, 1) := by decide +kernel
theorem dX3_init_0 : decode cX3_init 0 = .ok (.aload_n 0, 1) := by decide +kernel
theorem dX3_init_1 : decode cX3_init 1 = .ok (.invokespecial 3, 3) := by decide +kernel
theorem dX3_init_4 : decode cX3_init 4 = .ok (.aload_n 0, 1) := by decide +kernel
theorem dX3_init_5 : decode cX3_init 5 = .ok (.bipush 9, 2) := by decide +kernel
theorem dX3_init_7 : decode cX3_init 7 = .ok (.newarray .int, 2) := by decide +kernel
theorem dX3_init_9 : decode cX3_init 9 = .ok (.putfield 9, 3) := by decide +kernel
theorem dX3_init_12 : decode cX3_init 12 = .ok (.iconst 0, 1) := by decide +kernel
theorem dX3_init_13 : decode cX3_init 13 = .ok (.istore_n 1, 1) := by decide +kernel
theorem dX3_init_14 : decode cX3_init 14 = .ok (.iload_n 1, 1) := by decide +kernel
theorem dX3_init_15 : decode cX3_init 15 = .ok (.bipush 9, 2) := by decide +kernel
theorem dX3_init_17 : decode cX3_init 17 = .ok (.if_icmp .ge 17, 3) := by decide +kernel
theorem dX3_init_20 : decode cX3_init 20 = .ok (.aload_n 0, 1) := by decide +kernel
theorem dX3_init_21 : decode cX3_init 21 = .ok (.getfield 9, 3) := by decide +kernel
theorem dX3_init_24 : decode cX3_init 24 = .ok (.iload_n 1, 1) := by decide +kernel
theorem dX3_init_25 : decode cX3_init 25 = .ok (.bipush 9, 2) := by decide +kernel
theorem dX3_init_27 : decode cX3_init 27 = .ok (.iastore, 1) := by decide +kernel
theorem dX3_init_28 : decode cX3_init 28 = .ok (.iinc 1 1, 3) := by decide +kernel
theorem dX3_init_31 : decode cX3_init 31 = .ok (.goto (-17), 3) := by decide +kernel
theorem dX3_init_34 : decode cX3_init 34 = .ok (.return_, 1) := by decide +kernel
theorem dX3_putBack_0 : decode cX3_putBack 0 = .ok (.iload_n 1, 1) := by decide +kernel
theorem dX3_putBack_1 : decode cX3_putBack 1 = .ok (.ifCond .lt 19, 3) := by decide +kernel
theorem dX3_putBack_4 : decode cX3_putBack 4 = .ok (.iload_n 1, 1) := by decide +kernel
theorem dX3_putBack_5 : decode cX3_putBack 5 = .ok (.bipush 9, 2) := by decide +kernel
theorem dX3_putBack_7 : decode cX3_putBack 7 = .ok (.if_icmp .ge 13, 3) := by decide +kernel
theorem dX3_putBack_10 : decode cX3_putBack 10 = .ok (.aload_n 0, 1) := by decide +kernel
theorem dX3_putBack_11 : decode cX3_putBack 11 = .ok (.getfield 9, 3) := by decide +kernel
theorem dX3_putBack_14 : decode cX3_putBack 14 = .ok (.iload_n 1, 1) := by decide +kernel
theorem dX3_putBack_15 : decode cX3_putBack 15 = .ok (.dup2, 1) := by decide +kernel
theorem dX3_putBack_16 : decode cX3_putBack 16 = .ok (.iaload, 1) := by decide +kernel
theorem dX3_putBack_17 : decode cX3_putBack 17 = .ok (.iload_n 2, 1) := by decide +kernel
theorem dX3_putBack_18 : decode cX3_putBack 18 = .ok (.iadd, 1) := by decide +kernel
theorem dX3_putBack_19 : decode cX3_putBack 19 = .ok (.iastore, 1) := by decide +kernel
theorem dX3_putBack_20 : decode cX3_putBack 20 = .ok (.return_, 1) := by decide +kernel
theorem dX3_unitsUpTo_0 : decode cX3_unitsUpTo 0 = .ok (.iconst 0, 1) := by decide +kernel
theorem dX3_unitsUpTo_1 : decode cX3_unitsUpTo 1 = .ok (.istore_n 2, 1) := by decide +kernel
theorem dX3_unitsUpTo_2 : decode cX3_unitsUpTo 2 = .ok (.iconst 0, 1) := by decide +kernel
theorem dX3_unitsUpTo_3 : decode cX3_unitsUpTo 3 = .ok (.istore_n 3, 1) := by decide +kernel
theorem dX3_unitsUpTo_4 : decode cX3_unitsUpTo 4 = .ok (.iload_n 3, 1) := by decide +kernel
theorem dX3_unitsUpTo_5 : decode cX3_unitsUpTo 5 = .ok (.bipush 9, 2) := by decide +kernel
theorem dX3_unitsUpTo_7 : decode cX3_unitsUpTo 7 = .ok (.if_icmp .ge 26, 3) := by decide +kernel
theorem dX3_unitsUpTo_10 : decode cX3_unitsUpTo 10 = .ok (.iload_n 3, 1) := by decide +kernel
theorem dX3_unitsUpTo_11 : decode cX3_unitsUpTo 11 = .ok (.invokestatic 15, 3) := by decide +kernel
theorem dX3_unitsUpTo_14 : decode cX3_unitsUpTo 14 = .ok (.iload_n 1, 1) := by decide +kernel
theorem dX3_unitsUpTo_15 : decode cX3_unitsUpTo 15 = .ok (.if_icmp .gt 12, 3) := by decide +kernel
theorem dX3_unitsUpTo_18 : decode cX3_unitsUpTo 18 = .ok (.iload_n 2, 1) := by decide +kernel
theorem dX3_unitsUpTo_19 : decode cX3_unitsUpTo 19 = .ok (.aload_n 0, 1) := by decide +kernel
theorem dX3_unitsUpTo_20 : decode cX3_unitsUpTo 20 = .ok (.getfield 9, 3) := by decide +kernel
theorem dX3_unitsUpTo_23 : decode cX3_unitsUpTo 23 = .ok (.iload_n 3, 1) := by decide +kernel
theorem dX3_unitsUpTo_24 : decode cX3_unitsUpTo 24 = .ok (.iaload, 1) := by decide +kernel
theorem dX3_unitsUpTo_25 : decode cX3_unitsUpTo 25 = .ok (.iadd, 1) := by decide +kernel
theorem dX3_unitsUpTo_26 : decode cX3_unitsUpTo 26 = .ok (.istore_n 2, 1) := by decide +kernel
theorem dX3_unitsUpTo_27 : decode cX3_unitsUpTo 27 = .ok (.iinc 3 1, 3) := by decide +kernel
theorem dX3_unitsUpTo_30 : decode cX3_unitsUpTo 30 = .ok (.goto (-26), 3) := by decide +kernel
theorem dX3_unitsUpTo_33 : decode cX3_unitsUpTo 33 = .ok (.iload_n 2, 1) := by decide +kernel
theorem dX3_unitsUpTo_34 : decode cX3_unitsUpTo 34 = .ok (.ireturn, 1) := by decide +kernel
theorem dX3_draw_0 : decode cX3_draw 0 = .ok (.aload_n 0, 1) := by decide +kernel
theorem dX3_draw_1 : decode cX3_draw 1 = .ok (.iload_n 2, 1) := by decide +kernel
theorem dX3_draw_2 : decode cX3_draw 2 = .ok (.invokevirtual 19, 3) := by decide +kernel
theorem dX3_draw_5 : decode cX3_draw 5 = .ok (.istore_n 3, 1) := by decide +kernel
theorem dX3_draw_6 : decode cX3_draw 6 = .ok (.iload_n 3, 1) := by decide +kernel
theorem dX3_draw_7 : decode cX3_draw 7 = .ok (.ifCond .gt 5, 3) := by decide +kernel
theorem dX3_draw_10 : decode cX3_draw 10 = .ok (.iconst (-1), 1) := by decide +kernel
theorem dX3_draw_11 : decode cX3_draw 11 = .ok (.ireturn, 1) := by decide +kernel
theorem dX3_draw_12 : decode cX3_draw 12 = .ok (.iload_n 1, 1) := by decide +kernel
theorem dX3_draw_13 : decode cX3_draw 13 = .ok (.iload_n 3, 1) := by decide +kernel
theorem dX3_draw_14 : decode cX3_draw 14 = .ok (.irem, 1) := by decide +kernel
theorem dX3_draw_15 : decode cX3_draw 15 = .ok (.istore 4, 2) := by decide +kernel
theorem dX3_draw_17 : decode cX3_draw 17 = .ok (.iconst 0, 1) := by decide +kernel
theorem dX3_draw_18 : decode cX3_draw 18 = .ok (.istore 5, 2) := by decide +kernel
theorem dX3_draw_20 : decode cX3_draw 20 = .ok (.iload 5, 2) := by decide +kernel
theorem dX3_draw_22 : decode cX3_draw 22 = .ok (.bipush 9, 2) := by decide +kernel
theorem dX3_draw_24 : decode cX3_draw 24 = .ok (.if_icmp .ge 47, 3) := by decide +kernel
theorem dX3_draw_27 : decode cX3_draw 27 = .ok (.iload 4, 2) := by decide +kernel
theorem dX3_draw_29 : decode cX3_draw 29 = .ok (.aload_n 0, 1) := by decide +kernel
theorem dX3_draw_30 : decode cX3_draw 30 = .ok (.getfield 9, 3) := by decide +kernel
theorem dX3_draw_33 : decode cX3_draw 33 = .ok (.iload 5, 2) := by decide +kernel
theorem dX3_draw_35 : decode cX3_draw 35 = .ok (.iaload, 1) := by decide +kernel
theorem dX3_draw_36 : decode cX3_draw 36 = .ok (.if_icmp .ge 17, 3) := by decide +kernel
theorem dX3_draw_39 : decode cX3_draw 39 = .ok (.aload_n 0, 1) := by decide +kernel
theorem dX3_draw_40 : decode cX3_draw 40 = .ok (.getfield 9, 3) := by decide +kernel
theorem dX3_draw_43 : decode cX3_draw 43 = .ok (.iload 5, 2) := by decide +kernel
theorem dX3_draw_45 : decode cX3_draw 45 = .ok (.dup2, 1) := by decide +kernel
theorem dX3_draw_46 : decode cX3_draw 46 = .ok (.iaload, 1) := by decide +kernel
theorem dX3_draw_47 : decode cX3_draw 47 = .ok (.iconst 1, 1) := by decide +kernel
theorem dX3_draw_48 : decode cX3_draw 48 = .ok (.isub, 1) := by decide +kernel
theorem dX3_draw_49 : decode cX3_draw 49 = .ok (.iastore, 1) := by decide +kernel
theorem dX3_draw_50 : decode cX3_draw 50 = .ok (.iload 5, 2) := by decide +kernel
theorem dX3_draw_52 : decode cX3_draw 52 = .ok (.ireturn, 1) := by decide +kernel
theorem dX3_draw_53 : decode cX3_draw 53 = .ok (.iload 4, 2) := by decide +kernel
theorem dX3_draw_55 : decode cX3_draw 55 = .ok (.aload_n 0, 1) := by decide +kernel
theorem dX3_draw_56 : decode cX3_draw 56 = .ok (.getfield 9, 3) := by decide +kernel
theorem dX3_draw_59 : decode cX3_draw 59 = .ok (.iload 5, 2) := by decide +kernel
theorem dX3_draw_61 : decode cX3_draw 61 = .ok (.iaload, 1) := by decide +kernel
theorem dX3_draw_62 : decode cX3_draw 62 = .ok (.isub, 1) := by decide +kernel
theorem dX3_draw_63 : decode cX3_draw 63 = .ok (.istore 4, 2) := by decide +kernel
theorem dX3_draw_65 : decode cX3_draw 65 = .ok (.iinc 5 1, 3) := by decide +kernel
theorem dX3_draw_68 : decode cX3_draw 68 = .ok (.goto (-48), 3) := by decide +kernel
theorem dX3_draw_71 : decode cX3_draw 71 = .ok (.iconst (-1), 1) := by decide +kernel
theorem dX3_draw_72 : decode cX3_draw 72 = .ok (.ireturn, 1) := by decide +kernel
theorem dX4_init_0 : decode cX4_init 0 = .ok (.aload_n 0, 1) := by decide +kernel
theorem dX4_init_1 : decode cX4_init 1 = .ok (.invokespecial 3, 3) := by decide +kernel
theorem dX4_init_4 : decode cX4_init 4 = .ok (.aload_n 0, 1) := by decide +kernel
theorem dX4_init_5 : decode cX4_init 5 = .ok (.iconst 5, 1) := by decide +kernel
theorem dX4_init_6 : decode cX4_init 6 = .ok (.newarray .int, 2) := by decide +kernel
theorem dX4_init_8 : decode cX4_init 8 = .ok (.putfield 9, 3) := by decide +kernel
theorem dX4_init_11 : decode cX4_init 11 = .ok (.aload_n 0, 1) := by decide +kernel
theorem dX4_init_12 : decode cX4_init 12 = .ok (.iconst 5, 1) := by decide +kernel
theorem dX4_init_13 : decode cX4_init 13 = .ok (.newarray .int, 2) := by decide +kernel
theorem dX4_init_15 : decode cX4_init 15 = .ok (.putfield 15, 3) := by decide +kernel
theorem dX4_init_18 : decode cX4_init 18 = .ok (.return_, 1) := by decide +kernel
theorem dX4_muster_0 : decode cX4_muster 0 = .ok (.aload_n 0, 1) := by decide +kernel
theorem dX4_muster_1 : decode cX4_muster 1 = .ok (.aload_n 1, 1) := by decide +kernel
theorem dX4_muster_2 : decode cX4_muster 2 = .ok (.getfield 18, 3) := by decide +kernel
theorem dX4_muster_5 : decode cX4_muster 5 = .ok (.iconst 5, 1) := by decide +kernel
theorem dX4_muster_6 : decode cX4_muster 6 = .ok (.invokestatic 24, 3) := by decide +kernel
theorem dX4_muster_9 : decode cX4_muster 9 = .ok (.putfield 30, 3) := by decide +kernel
theorem dX4_muster_12 : decode cX4_muster 12 = .ok (.aload_n 0, 1) := by decide +kernel
theorem dX4_muster_13 : decode cX4_muster 13 = .ok (.iconst 0, 1) := by decide +kernel
theorem dX4_muster_14 : decode cX4_muster 14 = .ok (.putfield 31, 3) := by decide +kernel
theorem dX4_muster_17 : decode cX4_muster 17 = .ok (.iconst 0, 1) := by decide +kernel
theorem dX4_muster_18 : decode cX4_muster 18 = .ok (.istore_n 2, 1) := by decide +kernel
theorem dX4_muster_19 : decode cX4_muster 19 = .ok (.iload_n 2, 1) := by decide +kernel
theorem dX4_muster_20 : decode cX4_muster 20 = .ok (.aload_n 0, 1) := by decide +kernel
theorem dX4_muster_21 : decode cX4_muster 21 = .ok (.getfield 30, 3) := by decide +kernel
theorem dX4_muster_24 : decode cX4_muster 24 = .ok (.if_icmp .ge 31, 3) := by decide +kernel
theorem dX4_muster_27 : decode cX4_muster 27 = .ok (.aload_n 0, 1) := by decide +kernel
theorem dX4_muster_28 : decode cX4_muster 28 = .ok (.getfield 9, 3) := by decide +kernel
theorem dX4_muster_31 : decode cX4_muster 31 = .ok (.iload_n 2, 1) := by decide +kernel
theorem dX4_muster_32 : decode cX4_muster 32 = .ok (.aload_n 1, 1) := by decide +kernel
theorem dX4_muster_33 : decode cX4_muster 33 = .ok (.iload_n 2, 1) := by decide +kernel
theorem dX4_muster_34 : decode cX4_muster 34 = .ok (.invokevirtual 34, 3) := by decide +kernel
theorem dX4_muster_37 : decode cX4_muster 37 = .ok (.iastore, 1) := by decide +kernel
theorem dX4_muster_38 : decode cX4_muster 38 = .ok (.aload_n 0, 1) := by decide +kernel
theorem dX4_muster_39 : decode cX4_muster 39 = .ok (.getfield 15, 3) := by decide +kernel
theorem dX4_muster_42 : decode cX4_muster 42 = .ok (.iload_n 2, 1) := by decide +kernel
theorem dX4_muster_43 : decode cX4_muster 43 = .ok (.aload_n 1, 1) := by decide +kernel
theorem dX4_muster_44 : decode cX4_muster 44 = .ok (.iload_n 2, 1) := by decide +kernel
theorem dX4_muster_45 : decode cX4_muster 45 = .ok (.invokevirtual 38, 3) := by decide +kernel
theorem dX4_muster_48 : decode cX4_muster 48 = .ok (.iastore, 1) := by decide +kernel
theorem dX4_muster_49 : decode cX4_muster 49 = .ok (.iinc 2 1, 3) := by decide +kernel
theorem dX4_muster_52 : decode cX4_muster 52 = .ok (.goto (-33), 3) := by decide +kernel
theorem dX4_muster_55 : decode cX4_muster 55 = .ok (.return_, 1) := by decide +kernel
theorem dX4_living_0 : decode cX4_living 0 = .ok (.iconst 0, 1) := by decide +kernel
theorem dX4_living_1 : decode cX4_living 1 = .ok (.istore_n 1, 1) := by decide +kernel
theorem dX4_living_2 : decode cX4_living 2 = .ok (.iconst 0, 1) := by decide +kernel
theorem dX4_living_3 : decode cX4_living 3 = .ok (.istore_n 2, 1) := by decide +kernel
theorem dX4_living_4 : decode cX4_living 4 = .ok (.iload_n 2, 1) := by decide +kernel
theorem dX4_living_5 : decode cX4_living 5 = .ok (.aload_n 0, 1) := by decide +kernel
theorem dX4_living_6 : decode cX4_living 6 = .ok (.getfield 30, 3) := by decide +kernel
theorem dX4_living_9 : decode cX4_living 9 = .ok (.if_icmp .ge 21, 3) := by decide +kernel
theorem dX4_living_12 : decode cX4_living 12 = .ok (.aload_n 0, 1) := by decide +kernel
theorem dX4_living_13 : decode cX4_living 13 = .ok (.getfield 9, 3) := by decide +kernel
theorem dX4_living_16 : decode cX4_living 16 = .ok (.iload_n 2, 1) := by decide +kernel
theorem dX4_living_17 : decode cX4_living 17 = .ok (.iaload, 1) := by decide +kernel
theorem dX4_living_18 : decode cX4_living 18 = .ok (.ifCond .le 6, 3) := by decide +kernel
theorem dX4_living_21 : decode cX4_living 21 = .ok (.iinc 1 1, 3) := by decide +kernel
theorem dX4_living_24 : decode cX4_living 24 = .ok (.iinc 2 1, 3) := by decide +kernel
theorem dX4_living_27 : decode cX4_living 27 = .ok (.goto (-23), 3) := by decide +kernel
theorem dX4_living_30 : decode cX4_living 30 = .ok (.iload_n 1, 1) := by decide +kernel
theorem dX4_living_31 : decode cX4_living 31 = .ok (.ireturn, 1) := by decide +kernel
theorem dX4_firstLiving_0 : decode cX4_firstLiving 0 = .ok (.iconst 0, 1) := by decide +kernel
theorem dX4_firstLiving_1 : decode cX4_firstLiving 1 = .ok (.istore_n 1, 1) := by decide +kernel
theorem dX4_firstLiving_2 : decode cX4_firstLiving 2 = .ok (.iload_n 1, 1) := by decide +kernel
theorem dX4_firstLiving_3 : decode cX4_firstLiving 3 = .ok (.aload_n 0, 1) := by decide +kernel
theorem dX4_firstLiving_4 : decode cX4_firstLiving 4 = .ok (.getfield 30, 3) := by decide +kernel
theorem dX4_firstLiving_7 : decode cX4_firstLiving 7 = .ok (.if_icmp .ge 20, 3) := by decide +kernel
theorem dX4_firstLiving_10 : decode cX4_firstLiving 10 = .ok (.aload_n 0, 1) := by decide +kernel
theorem dX4_firstLiving_11 : decode cX4_firstLiving 11 = .ok (.getfield 9, 3) := by decide +kernel
theorem dX4_firstLiving_14 : decode cX4_firstLiving 14 = .ok (.iload_n 1, 1) := by decide +kernel
theorem dX4_firstLiving_15 : decode cX4_firstLiving 15 = .ok (.iaload, 1) := by decide +kernel
theorem dX4_firstLiving_16 : decode cX4_firstLiving 16 = .ok (.ifCond .le 5, 3) := by decide +kernel
theorem dX4_firstLiving_19 : decode cX4_firstLiving 19 = .ok (.iload_n 1, 1) := by decide +kernel
theorem dX4_firstLiving_20 : decode cX4_firstLiving 20 = .ok (.ireturn, 1) := by decide +kernel
theorem dX4_firstLiving_21 : decode cX4_firstLiving 21 = .ok (.iinc 1 1, 3) := by decide +kernel
theorem dX4_firstLiving_24 : decode cX4_firstLiving 24 = .ok (.goto (-22), 3) := by decide +kernel
theorem dX4_firstLiving_27 : decode cX4_firstLiving 27 = .ok (.iconst (-1), 1) := by decide +kernel
theorem dX4_firstLiving_28 : decode cX4_firstLiving 28 = .ok (.ireturn, 1) := by decide +kernel
theorem dX4_takeBlow_0 : decode cX4_takeBlow 0 = .ok (.iload_n 1, 1) := by decide +kernel
theorem dX4_takeBlow_1 : decode cX4_takeBlow 1 = .ok (.ifCond .lt 21, 3) := by decide +kernel
theorem dX4_takeBlow_4 : decode cX4_takeBlow 4 = .ok (.iload_n 1, 1) := by decide +kernel
theorem dX4_takeBlow_5 : decode cX4_takeBlow 5 = .ok (.aload_n 0, 1) := by decide +kernel
theorem dX4_takeBlow_6 : decode cX4_takeBlow 6 = .ok (.getfield 30, 3) := by decide +kernel
theorem dX4_takeBlow_9 : decode cX4_takeBlow 9 = .ok (.if_icmp .ge 13, 3) := by decide +kernel
theorem dX4_takeBlow_12 : decode cX4_takeBlow 12 = .ok (.aload_n 0, 1) := by decide +kernel
theorem dX4_takeBlow_13 : decode cX4_takeBlow 13 = .ok (.getfield 9, 3) := by decide +kernel
theorem dX4_takeBlow_16 : decode cX4_takeBlow 16 = .ok (.iload_n 1, 1) := by decide +kernel
theorem dX4_takeBlow_17 : decode cX4_takeBlow 17 = .ok (.dup2, 1) := by decide +kernel
theorem dX4_takeBlow_18 : decode cX4_takeBlow 18 = .ok (.iaload, 1) := by decide +kernel
theorem dX4_takeBlow_19 : decode cX4_takeBlow 19 = .ok (.iload_n 2, 1) := by decide +kernel
theorem dX4_takeBlow_20 : decode cX4_takeBlow 20 = .ok (.isub, 1) := by decide +kernel
theorem dX4_takeBlow_21 : decode cX4_takeBlow 21 = .ok (.iastore, 1) := by decide +kernel
theorem dX4_takeBlow_22 : decode cX4_takeBlow 22 = .ok (.return_, 1) := by decide +kernel
theorem dX4_takeTurn_0 : decode cX4_takeTurn 0 = .ok (.iconst 0, 1) := by decide +kernel
theorem dX4_takeTurn_1 : decode cX4_takeTurn 1 = .ok (.istore_n 1, 1) := by decide +kernel
theorem dX4_takeTurn_2 : decode cX4_takeTurn 2 = .ok (.iload_n 1, 1) := by decide +kernel
theorem dX4_takeTurn_3 : decode cX4_takeTurn 3 = .ok (.aload_n 0, 1) := by decide +kernel
theorem dX4_takeTurn_4 : decode cX4_takeTurn 4 = .ok (.getfield 30, 3) := by decide +kernel
theorem dX4_takeTurn_7 : decode cX4_takeTurn 7 = .ok (.if_icmp .ge 39, 3) := by decide +kernel
theorem dX4_takeTurn_10 : decode cX4_takeTurn 10 = .ok (.aload_n 0, 1) := by decide +kernel
theorem dX4_takeTurn_11 : decode cX4_takeTurn 11 = .ok (.getfield 31, 3) := by decide +kernel
theorem dX4_takeTurn_14 : decode cX4_takeTurn 14 = .ok (.iload_n 1, 1) := by decide +kernel
theorem dX4_takeTurn_15 : decode cX4_takeTurn 15 = .ok (.iadd, 1) := by decide +kernel
theorem dX4_takeTurn_16 : decode cX4_takeTurn 16 = .ok (.aload_n 0, 1) := by decide +kernel
theorem dX4_takeTurn_17 : decode cX4_takeTurn 17 = .ok (.getfield 30, 3) := by decide +kernel
theorem dX4_takeTurn_20 : decode cX4_takeTurn 20 = .ok (.irem, 1) := by decide +kernel
theorem dX4_takeTurn_21 : decode cX4_takeTurn 21 = .ok (.istore_n 2, 1) := by decide +kernel
theorem dX4_takeTurn_22 : decode cX4_takeTurn 22 = .ok (.aload_n 0, 1) := by decide +kernel
theorem dX4_takeTurn_23 : decode cX4_takeTurn 23 = .ok (.getfield 9, 3) := by decide +kernel
theorem dX4_takeTurn_26 : decode cX4_takeTurn 26 = .ok (.iload_n 2, 1) := by decide +kernel
theorem dX4_takeTurn_27 : decode cX4_takeTurn 27 = .ok (.iaload, 1) := by decide +kernel
theorem dX4_takeTurn_28 : decode cX4_takeTurn 28 = .ok (.ifCond .le 12, 3) := by decide +kernel
theorem dX4_takeTurn_31 : decode cX4_takeTurn 31 = .ok (.aload_n 0, 1) := by decide +kernel
theorem dX4_takeTurn_32 : decode cX4_takeTurn 32 = .ok (.iload_n 2, 1) := by decide +kernel
theorem dX4_takeTurn_33 : decode cX4_takeTurn 33 = .ok (.iconst 1, 1) := by decide +kernel
theorem dX4_takeTurn_34 : decode cX4_takeTurn 34 = .ok (.iadd, 1) := by decide +kernel
theorem dX4_takeTurn_35 : decode cX4_takeTurn 35 = .ok (.putfield 31, 3) := by decide +kernel
theorem dX4_takeTurn_38 : decode cX4_takeTurn 38 = .ok (.iload_n 2, 1) := by decide +kernel
theorem dX4_takeTurn_39 : decode cX4_takeTurn 39 = .ok (.ireturn, 1) := by decide +kernel
theorem dX4_takeTurn_40 : decode cX4_takeTurn 40 = .ok (.iinc 1 1, 3) := by decide +kernel
theorem dX4_takeTurn_43 : decode cX4_takeTurn 43 = .ok (.goto (-41), 3) := by decide +kernel
theorem dX4_takeTurn_46 : decode cX4_takeTurn 46 = .ok (.iconst (-1), 1) := by decide +kernel
theorem dX4_takeTurn_47 : decode cX4_takeTurn 47 = .ok (.ireturn, 1) := by decide +kernel
theorem dX5_init_0 : decode cX5_init 0 = .ok (.aload_n 0, 1) := by decide +kernel
theorem dX5_init_1 : decode cX5_init 1 = .ok (.invokespecial 3, 3) := by decide +kernel
theorem dX5_init_4 : decode cX5_init 4 = .ok (.aload_n 0, 1) := by decide +kernel
theorem dX5_init_5 : decode cX5_init 5 = .ok (.iload_n 1, 1) := by decide +kernel
theorem dX5_init_6 : decode cX5_init 6 = .ok (.newarray .int, 2) := by decide +kernel
theorem dX5_init_8 : decode cX5_init 8 = .ok (.putfield 9, 3) := by decide +kernel
theorem dX5_init_11 : decode cX5_init 11 = .ok (.aload_n 0, 1) := by decide +kernel
theorem dX5_init_12 : decode cX5_init 12 = .ok (.iload_n 1, 1) := by decide +kernel
theorem dX5_init_13 : decode cX5_init 13 = .ok (.newarray .int, 2) := by decide +kernel
theorem dX5_init_15 : decode cX5_init 15 = .ok (.putfield 15, 3) := by decide +kernel
theorem dX5_init_18 : decode cX5_init 18 = .ok (.return_, 1) := by decide +kernel
theorem dX5_has_0 : decode cX5_has 0 = .ok (.iload_n 1, 1) := by decide +kernel
theorem dX5_has_1 : decode cX5_has 1 = .ok (.ifCond .lt 15, 3) := by decide +kernel
theorem dX5_has_4 : decode cX5_has 4 = .ok (.iload_n 1, 1) := by decide +kernel
theorem dX5_has_5 : decode cX5_has 5 = .ok (.aload_n 0, 1) := by decide +kernel
theorem dX5_has_6 : decode cX5_has 6 = .ok (.getfield 18, 3) := by decide +kernel
theorem dX5_has_9 : decode cX5_has 9 = .ok (.if_icmp .ge 7, 3) := by decide +kernel
theorem dX5_has_12 : decode cX5_has 12 = .ok (.iconst 1, 1) := by decide +kernel
theorem dX5_has_13 : decode cX5_has 13 = .ok (.goto 4, 3) := by decide +kernel
theorem dX5_has_16 : decode cX5_has 16 = .ok (.iconst 0, 1) := by decide +kernel
theorem dX5_has_17 : decode cX5_has 17 = .ok (.ireturn, 1) := by decide +kernel
theorem dX5_append_0 : decode cX5_append 0 = .ok (.aload_n 0, 1) := by decide +kernel
theorem dX5_append_1 : decode cX5_append 1 = .ok (.getfield 18, 3) := by decide +kernel
theorem dX5_append_4 : decode cX5_append 4 = .ok (.aload_n 0, 1) := by decide +kernel
theorem dX5_append_5 : decode cX5_append 5 = .ok (.getfield 9, 3) := by decide +kernel
theorem dX5_append_8 : decode cX5_append 8 = .ok (.arraylength, 1) := by decide +kernel
theorem dX5_append_9 : decode cX5_append 9 = .ok (.if_icmp .lt 5, 3) := by decide +kernel
theorem dX5_append_12 : decode cX5_append 12 = .ok (.iconst 0, 1) := by decide +kernel
theorem dX5_append_13 : decode cX5_append 13 = .ok (.ireturn, 1) := by decide +kernel
theorem dX5_append_14 : decode cX5_append 14 = .ok (.aload_n 0, 1) := by decide +kernel
theorem dX5_append_15 : decode cX5_append 15 = .ok (.getfield 9, 3) := by decide +kernel
theorem dX5_append_18 : decode cX5_append 18 = .ok (.aload_n 0, 1) := by decide +kernel
theorem dX5_append_19 : decode cX5_append 19 = .ok (.getfield 18, 3) := by decide +kernel
theorem dX5_append_22 : decode cX5_append 22 = .ok (.iload_n 1, 1) := by decide +kernel
theorem dX5_append_23 : decode cX5_append 23 = .ok (.iastore, 1) := by decide +kernel
theorem dX5_append_24 : decode cX5_append 24 = .ok (.aload_n 0, 1) := by decide +kernel
theorem dX5_append_25 : decode cX5_append 25 = .ok (.getfield 15, 3) := by decide +kernel
theorem dX5_append_28 : decode cX5_append 28 = .ok (.aload_n 0, 1) := by decide +kernel
theorem dX5_append_29 : decode cX5_append 29 = .ok (.getfield 18, 3) := by decide +kernel
theorem dX5_append_32 : decode cX5_append 32 = .ok (.iload_n 2, 1) := by decide +kernel
theorem dX5_append_33 : decode cX5_append 33 = .ok (.iastore, 1) := by decide +kernel
theorem dX5_append_34 : decode cX5_append 34 = .ok (.aload_n 0, 1) := by decide +kernel
theorem dX5_append_35 : decode cX5_append 35 = .ok (.dup, 1) := by decide +kernel
theorem dX5_append_36 : decode cX5_append 36 = .ok (.getfield 18, 3) := by decide +kernel
theorem dX5_append_39 : decode cX5_append 39 = .ok (.iconst 1, 1) := by decide +kernel
theorem dX5_append_40 : decode cX5_append 40 = .ok (.iadd, 1) := by decide +kernel
theorem dX5_append_41 : decode cX5_append 41 = .ok (.putfield 18, 3) := by decide +kernel
theorem dX5_append_44 : decode cX5_append 44 = .ok (.iconst 1, 1) := by decide +kernel
theorem dX5_append_45 : decode cX5_append 45 = .ok (.ireturn, 1) := by decide +kernel
theorem dX5_removeAt_0 : decode cX5_removeAt 0 = .ok (.aload_n 0, 1) := by decide +kernel
theorem dX5_removeAt_1 : decode cX5_removeAt 1 = .ok (.iload_n 1, 1) := by decide +kernel
theorem dX5_removeAt_2 : decode cX5_removeAt 2 = .ok (.invokevirtual 22, 3) := by decide +kernel
theorem dX5_removeAt_5 : decode cX5_removeAt 5 = .ok (.ifCond .ne 4, 3) := by decide +kernel
theorem dX5_removeAt_8 : decode cX5_removeAt 8 = .ok (.return_, 1) := by decide +kernel
theorem dX5_removeAt_9 : decode cX5_removeAt 9 = .ok (.aload_n 0, 1) := by decide +kernel
theorem dX5_removeAt_10 : decode cX5_removeAt 10 = .ok (.dup, 1) := by decide +kernel
theorem dX5_removeAt_11 : decode cX5_removeAt 11 = .ok (.getfield 18, 3) := by decide +kernel
theorem dX5_removeAt_14 : decode cX5_removeAt 14 = .ok (.iconst 1, 1) := by decide +kernel
theorem dX5_removeAt_15 : decode cX5_removeAt 15 = .ok (.isub, 1) := by decide +kernel
theorem dX5_removeAt_16 : decode cX5_removeAt 16 = .ok (.putfield 18, 3) := by decide +kernel
theorem dX5_removeAt_19 : decode cX5_removeAt 19 = .ok (.iload_n 1, 1) := by decide +kernel
theorem dX5_removeAt_20 : decode cX5_removeAt 20 = .ok (.istore_n 2, 1) := by decide +kernel
theorem dX5_removeAt_21 : decode cX5_removeAt 21 = .ok (.iload_n 2, 1) := by decide +kernel
theorem dX5_removeAt_22 : decode cX5_removeAt 22 = .ok (.aload_n 0, 1) := by decide +kernel
theorem dX5_removeAt_23 : decode cX5_removeAt 23 = .ok (.getfield 18, 3) := by decide +kernel
theorem dX5_removeAt_26 : decode cX5_removeAt 26 = .ok (.if_icmp .ge 37, 3) := by decide +kernel
theorem dX5_removeAt_29 : decode cX5_removeAt 29 = .ok (.aload_n 0, 1) := by decide +kernel
theorem dX5_removeAt_30 : decode cX5_removeAt 30 = .ok (.getfield 9, 3) := by decide +kernel
theorem dX5_removeAt_33 : decode cX5_removeAt 33 = .ok (.iload_n 2, 1) := by decide +kernel
theorem dX5_removeAt_34 : decode cX5_removeAt 34 = .ok (.aload_n 0, 1) := by decide +kernel
theorem dX5_removeAt_35 : decode cX5_removeAt 35 = .ok (.getfield 9, 3) := by decide +kernel
theorem dX5_removeAt_38 : decode cX5_removeAt 38 = .ok (.iload_n 2, 1) := by decide +kernel
theorem dX5_removeAt_39 : decode cX5_removeAt 39 = .ok (.iconst 1, 1) := by decide +kernel
theorem dX5_removeAt_40 : decode cX5_removeAt 40 = .ok (.iadd, 1) := by decide +kernel
theorem dX5_removeAt_41 : decode cX5_removeAt 41 = .ok (.iaload, 1) := by decide +kernel
theorem dX5_removeAt_42 : decode cX5_removeAt 42 = .ok (.iastore, 1) := by decide +kernel
theorem dX5_removeAt_43 : decode cX5_removeAt 43 = .ok (.aload_n 0, 1) := by decide +kernel
theorem dX5_removeAt_44 : decode cX5_removeAt 44 = .ok (.getfield 15, 3) := by decide +kernel
theorem dX5_removeAt_47 : decode cX5_removeAt 47 = .ok (.iload_n 2, 1) := by decide +kernel
theorem dX5_removeAt_48 : decode cX5_removeAt 48 = .ok (.aload_n 0, 1) := by decide +kernel
theorem dX5_removeAt_49 : decode cX5_removeAt 49 = .ok (.getfield 15, 3) := by decide +kernel
theorem dX5_removeAt_52 : decode cX5_removeAt 52 = .ok (.iload_n 2, 1) := by decide +kernel
theorem dX5_removeAt_53 : decode cX5_removeAt 53 = .ok (.iconst 1, 1) := by decide +kernel
theorem dX5_removeAt_54 : decode cX5_removeAt 54 = .ok (.iadd, 1) := by decide +kernel
theorem dX5_removeAt_55 : decode cX5_removeAt 55 = .ok (.iaload, 1) := by decide +kernel
theorem dX5_removeAt_56 : decode cX5_removeAt 56 = .ok (.iastore, 1) := by decide +kernel
theorem dX5_removeAt_57 : decode cX5_removeAt 57 = .ok (.iinc 2 1, 3) := by decide +kernel
theorem dX5_removeAt_60 : decode cX5_removeAt 60 = .ok (.goto (-39), 3) := by decide +kernel
theorem dX5_removeAt_63 : decode cX5_removeAt 63 = .ok (.return_, 1) := by decide +kernel
theorem dX5_find_0 : decode cX5_find 0 = .ok (.iconst 0, 1) := by decide +kernel
theorem dX5_find_1 : decode cX5_find 1 = .ok (.istore_n 3, 1) := by decide +kernel
theorem dX5_find_2 : decode cX5_find 2 = .ok (.iload_n 3, 1) := by decide +kernel
theorem dX5_find_3 : decode cX5_find 3 = .ok (.aload_n 0, 1) := by decide +kernel
theorem dX5_find_4 : decode cX5_find 4 = .ok (.getfield 18, 3) := by decide +kernel
theorem dX5_find_7 : decode cX5_find 7 = .ok (.if_icmp .ge 31, 3) := by decide +kernel
theorem dX5_find_10 : decode cX5_find 10 = .ok (.aload_n 0, 1) := by decide +kernel
theorem dX5_find_11 : decode cX5_find 11 = .ok (.getfield 9, 3) := by decide +kernel
theorem dX5_find_14 : decode cX5_find 14 = .ok (.iload_n 3, 1) := by decide +kernel
theorem dX5_find_15 : decode cX5_find 15 = .ok (.iaload, 1) := by decide +kernel
theorem dX5_find_16 : decode cX5_find 16 = .ok (.iload_n 1, 1) := by decide +kernel
theorem dX5_find_17 : decode cX5_find 17 = .ok (.if_icmp .ne 15, 3) := by decide +kernel
theorem dX5_find_20 : decode cX5_find 20 = .ok (.aload_n 0, 1) := by decide +kernel
theorem dX5_find_21 : decode cX5_find 21 = .ok (.getfield 15, 3) := by decide +kernel
theorem dX5_find_24 : decode cX5_find 24 = .ok (.iload_n 3, 1) := by decide +kernel
theorem dX5_find_25 : decode cX5_find 25 = .ok (.iaload, 1) := by decide +kernel
theorem dX5_find_26 : decode cX5_find 26 = .ok (.iload_n 2, 1) := by decide +kernel
theorem dX5_find_27 : decode cX5_find 27 = .ok (.if_icmp .ne 5, 3) := by decide +kernel
theorem dX5_find_30 : decode cX5_find 30 = .ok (.iload_n 3, 1) := by decide +kernel
theorem dX5_find_31 : decode cX5_find 31 = .ok (.ireturn, 1) := by decide +kernel
theorem dX5_find_32 : decode cX5_find 32 = .ok (.iinc 3 1, 3) := by decide +kernel
theorem dX5_find_35 : decode cX5_find 35 = .ok (.goto (-33), 3) := by decide +kernel
theorem dX5_find_38 : decode cX5_find 38 = .ok (.iconst (-1), 1) := by decide +kernel
theorem dX5_find_39 : decode cX5_find 39 = .ok (.ireturn, 1) := by decide +kernel
theorem dX5_countOf_0 : decode cX5_countOf 0 = .ok (.iconst 0, 1) := by decide +kernel
theorem dX5_countOf_1 : decode cX5_countOf 1 = .ok (.istore_n 3, 1) := by decide +kernel
theorem dX5_countOf_2 : decode cX5_countOf 2 = .ok (.iconst 0, 1) := by decide +kernel
theorem dX5_countOf_3 : decode cX5_countOf 3 = .ok (.istore 4, 2) := by decide +kernel
theorem dX5_countOf_5 : decode cX5_countOf 5 = .ok (.iload 4, 2) := by decide +kernel
theorem dX5_countOf_7 : decode cX5_countOf 7 = .ok (.aload_n 0, 1) := by decide +kernel
theorem dX5_countOf_8 : decode cX5_countOf 8 = .ok (.getfield 18, 3) := by decide +kernel
theorem dX5_countOf_11 : decode cX5_countOf 11 = .ok (.if_icmp .ge 34, 3) := by decide +kernel
theorem dX5_countOf_14 : decode cX5_countOf 14 = .ok (.aload_n 0, 1) := by decide +kernel
theorem dX5_countOf_15 : decode cX5_countOf 15 = .ok (.getfield 9, 3) := by decide +kernel
theorem dX5_countOf_18 : decode cX5_countOf 18 = .ok (.iload 4, 2) := by decide +kernel
theorem dX5_countOf_20 : decode cX5_countOf 20 = .ok (.iaload, 1) := by decide +kernel
theorem dX5_countOf_21 : decode cX5_countOf 21 = .ok (.iload_n 1, 1) := by decide +kernel
theorem dX5_countOf_22 : decode cX5_countOf 22 = .ok (.if_icmp .ne 17, 3) := by decide +kernel
theorem dX5_countOf_25 : decode cX5_countOf 25 = .ok (.aload_n 0, 1) := by decide +kernel
theorem dX5_countOf_26 : decode cX5_countOf 26 = .ok (.getfield 15, 3) := by decide +kernel
theorem dX5_countOf_29 : decode cX5_countOf 29 = .ok (.iload 4, 2) := by decide +kernel
theorem dX5_countOf_31 : decode cX5_countOf 31 = .ok (.iaload, 1) := by decide +kernel
theorem dX5_countOf_32 : decode cX5_countOf 32 = .ok (.iload_n 2, 1) := by decide +kernel
theorem dX5_countOf_33 : decode cX5_countOf 33 = .ok (.if_icmp .ne 6, 3) := by decide +kernel
theorem dX5_countOf_36 : decode cX5_countOf 36 = .ok (.iinc 3 1, 3) := by decide +kernel
theorem dX5_countOf_39 : decode cX5_countOf 39 = .ok (.iinc 4 1, 3) := by decide +kernel
theorem dX5_countOf_42 : decode cX5_countOf 42 = .ok (.goto (-37), 3) := by decide +kernel
theorem dX5_countOf_45 : decode cX5_countOf 45 = .ok (.iload_n 3, 1) := by decide +kernel
theorem dX5_countOf_46 : decode cX5_countOf 46 = .ok (.ireturn, 1) := by decide +kernel
theorem dX5_hasKind_0 : decode cX5_hasKind 0 = .ok (.iconst 0, 1) := by decide +kernel
theorem dX5_hasKind_1 : decode cX5_hasKind 1 = .ok (.istore_n 2, 1) := by decide +kernel
theorem dX5_hasKind_2 : decode cX5_hasKind 2 = .ok (.iload_n 2, 1) := by decide +kernel
theorem dX5_hasKind_3 : decode cX5_hasKind 3 = .ok (.aload_n 0, 1) := by decide +kernel
theorem dX5_hasKind_4 : decode cX5_hasKind 4 = .ok (.getfield 18, 3) := by decide +kernel
theorem dX5_hasKind_7 : decode cX5_hasKind 7 = .ok (.if_icmp .ge 21, 3) := by decide +kernel
theorem dX5_hasKind_10 : decode cX5_hasKind 10 = .ok (.aload_n 0, 1) := by decide +kernel
theorem dX5_hasKind_11 : decode cX5_hasKind 11 = .ok (.getfield 9, 3) := by decide +kernel
theorem dX5_hasKind_14 : decode cX5_hasKind 14 = .ok (.iload_n 2, 1) := by decide +kernel
theorem dX5_hasKind_15 : decode cX5_hasKind 15 = .ok (.iaload, 1) := by decide +kernel
theorem dX5_hasKind_16 : decode cX5_hasKind 16 = .ok (.iload_n 1, 1) := by decide +kernel
theorem dX5_hasKind_17 : decode cX5_hasKind 17 = .ok (.if_icmp .ne 5, 3) := by decide +kernel
theorem dX5_hasKind_20 : decode cX5_hasKind 20 = .ok (.iconst 1, 1) := by decide +kernel
theorem dX5_hasKind_21 : decode cX5_hasKind 21 = .ok (.ireturn, 1) := by decide +kernel
theorem dX5_hasKind_22 : decode cX5_hasKind 22 = .ok (.iinc 2 1, 3) := by decide +kernel
theorem dX5_hasKind_25 : decode cX5_hasKind 25 = .ok (.goto (-23), 3) := by decide +kernel
theorem dX5_hasKind_28 : decode cX5_hasKind 28 = .ok (.iconst 0, 1) := by decide +kernel
theorem dX5_hasKind_29 : decode cX5_hasKind 29 = .ok (.ireturn, 1) := by decide +kernel
theorem dX5_unitsHeld_0 : decode cX5_unitsHeld 0 = .ok (.iconst 0, 1) := by decide +kernel
theorem dX5_unitsHeld_1 : decode cX5_unitsHeld 1 = .ok (.istore_n 2, 1) := by decide +kernel
theorem dX5_unitsHeld_2 : decode cX5_unitsHeld 2 = .ok (.iconst 0, 1) := by decide +kernel
theorem dX5_unitsHeld_3 : decode cX5_unitsHeld 3 = .ok (.istore_n 3, 1) := by decide +kernel
theorem dX5_unitsHeld_4 : decode cX5_unitsHeld 4 = .ok (.iload_n 3, 1) := by decide +kernel
theorem dX5_unitsHeld_5 : decode cX5_unitsHeld 5 = .ok (.aload_n 0, 1) := by decide +kernel
theorem dX5_unitsHeld_6 : decode cX5_unitsHeld 6 = .ok (.getfield 18, 3) := by decide +kernel
theorem dX5_unitsHeld_9 : decode cX5_unitsHeld 9 = .ok (.if_icmp .ge 31, 3) := by decide +kernel
theorem dX5_unitsHeld_12 : decode cX5_unitsHeld 12 = .ok (.aload_n 0, 1) := by decide +kernel
theorem dX5_unitsHeld_13 : decode cX5_unitsHeld 13 = .ok (.getfield 9, 3) := by decide +kernel
theorem dX5_unitsHeld_16 : decode cX5_unitsHeld 16 = .ok (.iload_n 3, 1) := by decide +kernel
theorem dX5_unitsHeld_17 : decode cX5_unitsHeld 17 = .ok (.iaload, 1) := by decide +kernel
theorem dX5_unitsHeld_18 : decode cX5_unitsHeld 18 = .ok (.iload_n 1, 1) := by decide +kernel
theorem dX5_unitsHeld_19 : decode cX5_unitsHeld 19 = .ok (.if_icmp .ne 15, 3) := by decide +kernel
theorem dX5_unitsHeld_22 : decode cX5_unitsHeld 22 = .ok (.iload_n 2, 1) := by decide +kernel
theorem dX5_unitsHeld_23 : decode cX5_unitsHeld 23 = .ok (.aload_n 0, 1) := by decide +kernel
theorem dX5_unitsHeld_24 : decode cX5_unitsHeld 24 = .ok (.getfield 15, 3) := by decide +kernel
theorem dX5_unitsHeld_27 : decode cX5_unitsHeld 27 = .ok (.iload_n 3, 1) := by decide +kernel
theorem dX5_unitsHeld_28 : decode cX5_unitsHeld 28 = .ok (.iaload, 1) := by decide +kernel
theorem dX5_unitsHeld_29 : decode cX5_unitsHeld 29 = .ok (.invokestatic 26, 3) := by decide +kernel
theorem dX5_unitsHeld_32 : decode cX5_unitsHeld 32 = .ok (.iadd, 1) := by decide +kernel
theorem dX5_unitsHeld_33 : decode cX5_unitsHeld 33 = .ok (.istore_n 2, 1) := by decide +kernel
theorem dX5_unitsHeld_34 : decode cX5_unitsHeld 34 = .ok (.iinc 3 1, 3) := by decide +kernel
theorem dX5_unitsHeld_37 : decode cX5_unitsHeld 37 = .ok (.goto (-33), 3) := by decide +kernel
theorem dX5_unitsHeld_40 : decode cX5_unitsHeld 40 = .ok (.iload_n 2, 1) := by decide +kernel
theorem dX5_unitsHeld_41 : decode cX5_unitsHeld 41 = .ok (.ireturn, 1) := by decide +kernel
theorem dX5_unitAt_0 : decode cX5_unitAt 0 = .ok (.aload_n 0, 1) := by decide +kernel
theorem dX5_unitAt_1 : decode cX5_unitAt 1 = .ok (.iload_n 1, 1) := by decide +kernel
theorem dX5_unitAt_2 : decode cX5_unitAt 2 = .ok (.invokevirtual 22, 3) := by decide +kernel
theorem dX5_unitAt_5 : decode cX5_unitAt 5 = .ok (.ifCond .eq 22, 3) := by decide +kernel
theorem dX5_unitAt_8 : decode cX5_unitAt 8 = .ok (.bipush 10, 2) := by decide +kernel
theorem dX5_unitAt_10 : decode cX5_unitAt 10 = .ok (.aload_n 0, 1) := by decide +kernel
theorem dX5_unitAt_11 : decode cX5_unitAt 11 = .ok (.getfield 9, 3) := by decide +kernel
theorem dX5_unitAt_14 : decode cX5_unitAt 14 = .ok (.iload_n 1, 1) := by decide +kernel
theorem dX5_unitAt_15 : decode cX5_unitAt 15 = .ok (.iaload, 1) := by decide +kernel
theorem dX5_unitAt_16 : decode cX5_unitAt 16 = .ok (.imul, 1) := by decide +kernel
theorem dX5_unitAt_17 : decode cX5_unitAt 17 = .ok (.aload_n 0, 1) := by decide +kernel
theorem dX5_unitAt_18 : decode cX5_unitAt 18 = .ok (.getfield 15, 3) := by decide +kernel
theorem dX5_unitAt_21 : decode cX5_unitAt 21 = .ok (.iload_n 1, 1) := by decide +kernel
theorem dX5_unitAt_22 : decode cX5_unitAt 22 = .ok (.iaload, 1) := by decide +kernel
theorem dX5_unitAt_23 : decode cX5_unitAt 23 = .ok (.iadd, 1) := by decide +kernel
theorem dX5_unitAt_24 : decode cX5_unitAt 24 = .ok (.goto 4, 3) := by decide +kernel
theorem dX5_unitAt_27 : decode cX5_unitAt 27 = .ok (.iconst (-1), 1) := by decide +kernel
theorem dX5_unitAt_28 : decode cX5_unitAt 28 = .ok (.ireturn, 1) := by decide +kernel
theorem dX5_healthAt_0 : decode cX5_healthAt 0 = .ok (.aload_n 0, 1) := by decide +kernel
theorem dX5_healthAt_1 : decode cX5_healthAt 1 = .ok (.iload_n 1, 1) := by decide +kernel
theorem dX5_healthAt_2 : decode cX5_healthAt 2 = .ok (.invokevirtual 22, 3) := by decide +kernel
theorem dX5_healthAt_5 : decode cX5_healthAt 5 = .ok (.ifCond .eq 25, 3) := by decide +kernel
theorem dX5_healthAt_8 : decode cX5_healthAt 8 = .ok (.bipush 6, 2) := by decide +kernel
theorem dX5_healthAt_10 : decode cX5_healthAt 10 = .ok (.aload_n 0, 1) := by decide +kernel
theorem dX5_healthAt_11 : decode cX5_healthAt 11 = .ok (.getfield 9, 3) := by decide +kernel
theorem dX5_healthAt_14 : decode cX5_healthAt 14 = .ok (.iload_n 1, 1) := by decide +kernel
theorem dX5_healthAt_15 : decode cX5_healthAt 15 = .ok (.iaload, 1) := by decide +kernel
theorem dX5_healthAt_16 : decode cX5_healthAt 16 = .ok (.invokestatic 30, 3) := by decide +kernel
theorem dX5_healthAt_19 : decode cX5_healthAt 19 = .ok (.imul, 1) := by decide +kernel
theorem dX5_healthAt_20 : decode cX5_healthAt 20 = .ok (.aload_n 0, 1) := by decide +kernel
theorem dX5_healthAt_21 : decode cX5_healthAt 21 = .ok (.getfield 15, 3) := by decide +kernel
theorem dX5_healthAt_24 : decode cX5_healthAt 24 = .ok (.iload_n 1, 1) := by decide +kernel
theorem dX5_healthAt_25 : decode cX5_healthAt 25 = .ok (.iaload, 1) := by decide +kernel
theorem dX5_healthAt_26 : decode cX5_healthAt 26 = .ok (.imul, 1) := by decide +kernel
theorem dX5_healthAt_27 : decode cX5_healthAt 27 = .ok (.goto 4, 3) := by decide +kernel
theorem dX5_healthAt_30 : decode cX5_healthAt 30 = .ok (.iconst 0, 1) := by decide +kernel
theorem dX5_healthAt_31 : decode cX5_healthAt 31 = .ok (.ireturn, 1) := by decide +kernel
theorem dX5_strengthAt_0 : decode cX5_strengthAt 0 = .ok (.aload_n 0, 1) := by decide +kernel
theorem dX5_strengthAt_1 : decode cX5_strengthAt 1 = .ok (.iload_n 1, 1) := by decide +kernel
theorem dX5_strengthAt_2 : decode cX5_strengthAt 2 = .ok (.invokevirtual 22, 3) := by decide +kernel
theorem dX5_strengthAt_5 : decode cX5_strengthAt 5 = .ok (.ifCond .ne 5, 3) := by decide +kernel
theorem dX5_strengthAt_8 : decode cX5_strengthAt 8 = .ok (.iconst 0, 1) := by decide +kernel
theorem dX5_strengthAt_9 : decode cX5_strengthAt 9 = .ok (.ireturn, 1) := by decide +kernel
theorem dX5_strengthAt_10 : decode cX5_strengthAt 10 = .ok (.aload_n 0, 1) := by decide +kernel
theorem dX5_strengthAt_11 : decode cX5_strengthAt 11 = .ok (.getfield 9, 3) := by decide +kernel
theorem dX5_strengthAt_14 : decode cX5_strengthAt 14 = .ok (.iload_n 1, 1) := by decide +kernel
theorem dX5_strengthAt_15 : decode cX5_strengthAt 15 = .ok (.iaload, 1) := by decide +kernel
theorem dX5_strengthAt_16 : decode cX5_strengthAt 16 = .ok (.istore_n 2, 1) := by decide +kernel
theorem dX5_strengthAt_17 : decode cX5_strengthAt 17 = .ok (.iconst 2, 1) := by decide +kernel
theorem dX5_strengthAt_18 : decode cX5_strengthAt 18 = .ok (.iload_n 2, 1) := by decide +kernel
theorem dX5_strengthAt_19 : decode cX5_strengthAt 19 = .ok (.invokestatic 30, 3) := by decide +kernel
theorem dX5_strengthAt_22 : decode cX5_strengthAt 22 = .ok (.imul, 1) := by decide +kernel
theorem dX5_strengthAt_23 : decode cX5_strengthAt 23 = .ok (.aload_n 0, 1) := by decide +kernel
theorem dX5_strengthAt_24 : decode cX5_strengthAt 24 = .ok (.getfield 15, 3) := by decide +kernel
theorem dX5_strengthAt_27 : decode cX5_strengthAt 27 = .ok (.iload_n 1, 1) := by decide +kernel
theorem dX5_strengthAt_28 : decode cX5_strengthAt 28 = .ok (.iaload, 1) := by decide +kernel
theorem dX5_strengthAt_29 : decode cX5_strengthAt 29 = .ok (.imul, 1) := by decide +kernel
theorem dX5_strengthAt_30 : decode cX5_strengthAt 30 = .ok (.istore_n 3, 1) := by decide +kernel
theorem dX5_strengthAt_31 : decode cX5_strengthAt 31 = .ok (.iload_n 2, 1) := by decide +kernel
theorem dX5_strengthAt_32 : decode cX5_strengthAt 32 = .ok (.iconst 3, 1) := by decide +kernel
theorem dX5_strengthAt_33 : decode cX5_strengthAt 33 = .ok (.irem, 1) := by decide +kernel
theorem dX5_strengthAt_34 : decode cX5_strengthAt 34 = .ok (.istore 4, 2) := by decide +kernel
theorem dX5_strengthAt_36 : decode cX5_strengthAt 36 = .ok (.iload 4, 2) := by decide +kernel
theorem dX5_strengthAt_38 : decode cX5_strengthAt 38 = .ok (.bipush 9, 2) := by decide +kernel
theorem dX5_strengthAt_40 : decode cX5_strengthAt 40 = .ok (.if_icmp .ge 27, 3) := by decide +kernel
theorem dX5_strengthAt_43 : decode cX5_strengthAt 43 = .ok (.iload 4, 2) := by decide +kernel
theorem dX5_strengthAt_45 : decode cX5_strengthAt 45 = .ok (.iload_n 2, 1) := by decide +kernel
theorem dX5_strengthAt_46 : decode cX5_strengthAt 46 = .ok (.if_icmp .eq 15, 3) := by decide +kernel
theorem dX5_strengthAt_49 : decode cX5_strengthAt 49 = .ok (.aload_n 0, 1) := by decide +kernel
theorem dX5_strengthAt_50 : decode cX5_strengthAt 50 = .ok (.iload 4, 2) := by decide +kernel
theorem dX5_strengthAt_52 : decode cX5_strengthAt 52 = .ok (.invokevirtual 33, 3) := by decide +kernel
theorem dX5_strengthAt_55 : decode cX5_strengthAt 55 = .ok (.ifCond .eq 6, 3) := by decide +kernel
theorem dX5_strengthAt_58 : decode cX5_strengthAt 58 = .ok (.iinc 3 1, 3) := by decide +kernel
theorem dX5_strengthAt_61 : decode cX5_strengthAt 61 = .ok (.iinc 4 3, 3) := by decide +kernel
theorem dX5_strengthAt_64 : decode cX5_strengthAt 64 = .ok (.goto (-28), 3) := by decide +kernel
theorem dX5_strengthAt_67 : decode cX5_strengthAt 67 = .ok (.iload_n 3, 1) := by decide +kernel
theorem dX5_strengthAt_68 : decode cX5_strengthAt 68 = .ok (.ireturn, 1) := by decide +kernel
theorem dX6_init_0 : decode cX6_init 0 = .ok (.aload_n 0, 1) := by decide +kernel
theorem dX6_init_1 : decode cX6_init 1 = .ok (.invokespecial 1, 3) := by decide +kernel
theorem dX6_init_4 : decode cX6_init 4 = .ok (.aload_n 0, 1) := by decide +kernel
theorem dX6_init_5 : decode cX6_init 5 = .ok (.iconst 4, 1) := by decide +kernel
theorem dX6_init_6 : decode cX6_init 6 = .ok (.anewarray 9, 3) := by decide +kernel
theorem dX6_init_9 : decode cX6_init 9 = .ok (.putfield 11, 3) := by decide +kernel
theorem dX6_init_12 : decode cX6_init 12 = .ok (.aload_n 0, 1) := by decide +kernel
theorem dX6_init_13 : decode cX6_init 13 = .ok (.new 15, 3) := by decide +kernel
theorem dX6_init_16 : decode cX6_init 16 = .ok (.dup, 1) := by decide +kernel
theorem dX6_init_17 : decode cX6_init 17 = .ok (.invokespecial 17, 3) := by decide +kernel
theorem dX6_init_20 : decode cX6_init 20 = .ok (.putfield 18, 3) := by decide +kernel
theorem dX6_init_23 : decode cX6_init 23 = .ok (.aload_n 0, 1) := by decide +kernel
theorem dX6_init_24 : decode cX6_init 24 = .ok (.new 22, 3) := by decide +kernel
theorem dX6_init_27 : decode cX6_init 27 = .ok (.dup, 1) := by decide +kernel
theorem dX6_init_28 : decode cX6_init 28 = .ok (.invokespecial 24, 3) := by decide +kernel
theorem dX6_init_31 : decode cX6_init 31 = .ok (.putfield 25, 3) := by decide +kernel
theorem dX6_init_34 : decode cX6_init 34 = .ok (.aload_n 0, 1) := by decide +kernel
theorem dX6_init_35 : decode cX6_init 35 = .ok (.new 29, 3) := by decide +kernel
theorem dX6_init_38 : decode cX6_init 38 = .ok (.dup, 1) := by decide +kernel
theorem dX6_init_39 : decode cX6_init 39 = .ok (.invokespecial 31, 3) := by decide +kernel
theorem dX6_init_42 : decode cX6_init 42 = .ok (.putfield 32, 3) := by decide +kernel
theorem dX6_init_45 : decode cX6_init 45 = .ok (.iconst 0, 1) := by decide +kernel
theorem dX6_init_46 : decode cX6_init 46 = .ok (.istore_n 1, 1) := by decide +kernel
theorem dX6_init_47 : decode cX6_init 47 = .ok (.iload_n 1, 1) := by decide +kernel
theorem dX6_init_48 : decode cX6_init 48 = .ok (.iconst 4, 1) := by decide +kernel
theorem dX6_init_49 : decode cX6_init 49 = .ok (.if_icmp .ge 22, 3) := by decide +kernel
theorem dX6_init_52 : decode cX6_init 52 = .ok (.aload_n 0, 1) := by decide +kernel
theorem dX6_init_53 : decode cX6_init 53 = .ok (.getfield 11, 3) := by decide +kernel
theorem dX6_init_56 : decode cX6_init 56 = .ok (.iload_n 1, 1) := by decide +kernel
theorem dX6_init_57 : decode cX6_init 57 = .ok (.new 9, 3) := by decide +kernel
theorem dX6_init_60 : decode cX6_init 60 = .ok (.dup, 1) := by decide +kernel
theorem dX6_init_61 : decode cX6_init 61 = .ok (.invokespecial 36, 3) := by decide +kernel
theorem dX6_init_64 : decode cX6_init 64 = .ok (.aastore, 1) := by decide +kernel
theorem dX6_init_65 : decode cX6_init 65 = .ok (.iinc 1 1, 3) := by decide +kernel
theorem dX6_init_68 : decode cX6_init 68 = .ok (.goto (-21), 3) := by decide +kernel
theorem dX6_init_71 : decode cX6_init 71 = .ok (.return_, 1) := by decide +kernel
theorem dX6_tell_0 : decode cX6_tell 0 = .ok (.iload_n 1, 1) := by decide +kernel
theorem dX6_tell_1 : decode cX6_tell 1 = .ok (.ifCond .lt 10, 3) := by decide +kernel
theorem dX6_tell_4 : decode cX6_tell 4 = .ok (.iload_n 1, 1) := by decide +kernel
theorem dX6_tell_5 : decode cX6_tell 5 = .ok (.sipush 1000, 3) := by decide +kernel
theorem dX6_tell_8 : decode cX6_tell 8 = .ok (.if_icmp .le 13, 3) := by decide +kernel
theorem dX6_tell_11 : decode cX6_tell 11 = .ok (.new 37, 3) := by decide +kernel
theorem dX6_tell_14 : decode cX6_tell 14 = .ok (.dup, 1) := by decide +kernel
theorem dX6_tell_15 : decode cX6_tell 15 = .ok (.ldc 39, 2) := by decide +kernel
theorem dX6_tell_17 : decode cX6_tell 17 = .ok (.invokespecial 41, 3) := by decide +kernel
theorem dX6_tell_20 : decode cX6_tell 20 = .ok (.athrow, 1) := by decide +kernel
theorem dX6_tell_21 : decode cX6_tell 21 = .ok (.aload_n 0, 1) := by decide +kernel
theorem dX6_tell_22 : decode cX6_tell 22 = .ok (.getfield 25, 3) := by decide +kernel
theorem dX6_tell_25 : decode cX6_tell 25 = .ok (.iload_n 1, 1) := by decide +kernel
theorem dX6_tell_26 : decode cX6_tell 26 = .ok (.invokevirtual 44, 3) := by decide +kernel
theorem dX6_tell_29 : decode cX6_tell 29 = .ok (.ifCond .ne 13, 3) := by decide +kernel
theorem dX6_tell_32 : decode cX6_tell 32 = .ok (.new 48, 3) := by decide +kernel
theorem dX6_tell_35 : decode cX6_tell 35 = .ok (.dup, 1) := by decide +kernel
theorem dX6_tell_36 : decode cX6_tell 36 = .ok (.ldc 50, 2) := by decide +kernel
theorem dX6_tell_38 : decode cX6_tell 38 = .ok (.invokespecial 52, 3) := by decide +kernel
theorem dX6_tell_41 : decode cX6_tell 41 = .ok (.athrow, 1) := by decide +kernel
theorem dX6_tell_42 : decode cX6_tell 42 = .ok (.aload_n 0, 1) := by decide +kernel
theorem dX6_tell_43 : decode cX6_tell 43 = .ok (.getfield 25, 3) := by decide +kernel
theorem dX6_tell_46 : decode cX6_tell 46 = .ok (.getfield 53, 3) := by decide +kernel
theorem dX6_tell_49 : decode cX6_tell 49 = .ok (.ireturn, 1) := by decide +kernel
theorem dX6_roll_0 : decode cX6_roll 0 = .ok (.aload_n 0, 1) := by decide +kernel
theorem dX6_roll_1 : decode cX6_roll 1 = .ok (.iload_n 1, 1) := by decide +kernel
theorem dX6_roll_2 : decode cX6_roll 2 = .ok (.invokevirtual 57, 3) := by decide +kernel
theorem dX6_roll_5 : decode cX6_roll 5 = .ok (.astore_n 2, 1) := by decide +kernel
theorem dX6_roll_6 : decode cX6_roll 6 = .ok (.aload_n 2, 1) := by decide +kernel
theorem dX6_roll_7 : decode cX6_roll 7 = .ok (.getfield 61, 3) := by decide +kernel
theorem dX6_roll_10 : decode cX6_roll 10 = .ok (.iconst 1, 1) := by decide +kernel
theorem dX6_roll_11 : decode cX6_roll 11 = .ok (.if_icmp .ge 13, 3) := by decide +kernel
theorem dX6_roll_14 : decode cX6_roll 14 = .ok (.new 48, 3) := by decide +kernel
theorem dX6_roll_17 : decode cX6_roll 17 = .ok (.dup, 1) := by decide +kernel
theorem dX6_roll_18 : decode cX6_roll 18 = .ok (.ldc 64, 2) := by decide +kernel
theorem dX6_roll_20 : decode cX6_roll 20 = .ok (.invokespecial 52, 3) := by decide +kernel
theorem dX6_roll_23 : decode cX6_roll 23 = .ok (.athrow, 1) := by decide +kernel
theorem dX6_roll_24 : decode cX6_roll 24 = .ok (.aload_n 2, 1) := by decide +kernel
theorem dX6_roll_25 : decode cX6_roll 25 = .ok (.dup, 1) := by decide +kernel
theorem dX6_roll_26 : decode cX6_roll 26 = .ok (.getfield 61, 3) := by decide +kernel
theorem dX6_roll_29 : decode cX6_roll 29 = .ok (.iconst 1, 1) := by decide +kernel
theorem dX6_roll_30 : decode cX6_roll 30 = .ok (.isub, 1) := by decide +kernel
theorem dX6_roll_31 : decode cX6_roll 31 = .ok (.putfield 61, 3) := by decide +kernel
theorem dX6_roll_34 : decode cX6_roll 34 = .ok (.aload_n 0, 1) := by decide +kernel
theorem dX6_roll_35 : decode cX6_roll 35 = .ok (.aload_n 2, 1) := by decide +kernel
theorem dX6_roll_36 : decode cX6_roll 36 = .ok (.invokevirtual 66, 3) := by decide +kernel
theorem dX6_roll_39 : decode cX6_roll 39 = .ok (.aload_n 2, 1) := by decide +kernel
theorem dX6_roll_40 : decode cX6_roll 40 = .ok (.iconst 0, 1) := by decide +kernel
theorem dX6_roll_41 : decode cX6_roll 41 = .ok (.putfield 70, 3) := by decide +kernel
theorem dX6_roll_44 : decode cX6_roll 44 = .ok (.aload_n 2, 1) := by decide +kernel
theorem dX6_roll_45 : decode cX6_roll 45 = .ok (.getfield 61, 3) := by decide +kernel
theorem dX6_roll_48 : decode cX6_roll 48 = .ok (.ireturn, 1) := by decide +kernel
theorem dX6_toggleLock_0 : decode cX6_toggleLock 0 = .ok (.aload_n 0, 1) := by decide +kernel
theorem dX6_toggleLock_1 : decode cX6_toggleLock 1 = .ok (.iload_n 1, 1) := by decide +kernel
theorem dX6_toggleLock_2 : decode cX6_toggleLock 2 = .ok (.invokevirtual 57, 3) := by decide +kernel
theorem dX6_toggleLock_5 : decode cX6_toggleLock 5 = .ok (.astore_n 2, 1) := by decide +kernel
theorem dX6_toggleLock_6 : decode cX6_toggleLock 6 = .ok (.aload_n 2, 1) := by decide +kernel
theorem dX6_toggleLock_7 : decode cX6_toggleLock 7 = .ok (.aload_n 2, 1) := by decide +kernel
theorem dX6_toggleLock_8 : decode cX6_toggleLock 8 = .ok (.getfield 70, 3) := by decide +kernel
theorem dX6_toggleLock_11 : decode cX6_toggleLock 11 = .ok (.ifCond .ne 7, 3) := by decide +kernel
theorem dX6_toggleLock_14 : decode cX6_toggleLock 14 = .ok (.iconst 1, 1) := by decide +kernel
theorem dX6_toggleLock_15 : decode cX6_toggleLock 15 = .ok (.goto 4, 3) := by decide +kernel
theorem dX6_toggleLock_18 : decode cX6_toggleLock 18 = .ok (.iconst 0, 1) := by decide +kernel
theorem dX6_toggleLock_19 : decode cX6_toggleLock 19 = .ok (.putfield 70, 3) := by decide +kernel
theorem dX6_toggleLock_22 : decode cX6_toggleLock 22 = .ok (.aload_n 2, 1) := by decide +kernel
theorem dX6_toggleLock_23 : decode cX6_toggleLock 23 = .ok (.getfield 70, 3) := by decide +kernel
theorem dX6_toggleLock_26 : decode cX6_toggleLock 26 = .ok (.ireturn, 1) := by decide +kernel
theorem dX6_buyLevel_0 : decode cX6_buyLevel 0 = .ok (.aload_n 0, 1) := by decide +kernel
theorem dX6_buyLevel_1 : decode cX6_buyLevel 1 = .ok (.iload_n 1, 1) := by decide +kernel
theorem dX6_buyLevel_2 : decode cX6_buyLevel 2 = .ok (.invokevirtual 57, 3) := by decide +kernel
theorem dX6_buyLevel_5 : decode cX6_buyLevel 5 = .ok (.astore_n 2, 1) := by decide +kernel
theorem dX6_buyLevel_6 : decode cX6_buyLevel 6 = .ok (.aload_n 2, 1) := by decide +kernel
theorem dX6_buyLevel_7 : decode cX6_buyLevel 7 = .ok (.getfield 61, 3) := by decide +kernel
theorem dX6_buyLevel_10 : decode cX6_buyLevel 10 = .ok (.iconst 4, 1) := by decide +kernel
theorem dX6_buyLevel_11 : decode cX6_buyLevel 11 = .ok (.if_icmp .ge 13, 3) := by decide +kernel
theorem dX6_buyLevel_14 : decode cX6_buyLevel 14 = .ok (.new 48, 3) := by decide +kernel
theorem dX6_buyLevel_17 : decode cX6_buyLevel 17 = .ok (.dup, 1) := by decide +kernel
theorem dX6_buyLevel_18 : decode cX6_buyLevel 18 = .ok (.ldc 74, 2) := by decide +kernel
theorem dX6_buyLevel_20 : decode cX6_buyLevel 20 = .ok (.invokespecial 52, 3) := by decide +kernel
theorem dX6_buyLevel_23 : decode cX6_buyLevel 23 = .ok (.athrow, 1) := by decide +kernel
theorem dX6_buyLevel_24 : decode cX6_buyLevel 24 = .ok (.aload_n 2, 1) := by decide +kernel
theorem dX6_buyLevel_25 : decode cX6_buyLevel 25 = .ok (.getfield 76, 3) := by decide +kernel
theorem dX6_buyLevel_28 : decode cX6_buyLevel 28 = .ok (.iconst 5, 1) := by decide +kernel
theorem dX6_buyLevel_29 : decode cX6_buyLevel 29 = .ok (.if_icmp .lt 13, 3) := by decide +kernel
theorem dX6_buyLevel_32 : decode cX6_buyLevel 32 = .ok (.new 48, 3) := by decide +kernel
theorem dX6_buyLevel_35 : decode cX6_buyLevel 35 = .ok (.dup, 1) := by decide +kernel
theorem dX6_buyLevel_36 : decode cX6_buyLevel 36 = .ok (.ldc 79, 2) := by decide +kernel
theorem dX6_buyLevel_38 : decode cX6_buyLevel 38 = .ok (.invokespecial 52, 3) := by decide +kernel
theorem dX6_buyLevel_41 : decode cX6_buyLevel 41 = .ok (.athrow, 1) := by decide +kernel
theorem dX6_buyLevel_42 : decode cX6_buyLevel 42 = .ok (.aload_n 2, 1) := by decide +kernel
theorem dX6_buyLevel_43 : decode cX6_buyLevel 43 = .ok (.dup, 1) := by decide +kernel
theorem dX6_buyLevel_44 : decode cX6_buyLevel 44 = .ok (.getfield 61, 3) := by decide +kernel
theorem dX6_buyLevel_47 : decode cX6_buyLevel 47 = .ok (.iconst 4, 1) := by decide +kernel
theorem dX6_buyLevel_48 : decode cX6_buyLevel 48 = .ok (.isub, 1) := by decide +kernel
theorem dX6_buyLevel_49 : decode cX6_buyLevel 49 = .ok (.putfield 61, 3) := by decide +kernel
theorem dX6_buyLevel_52 : decode cX6_buyLevel 52 = .ok (.aload_n 2, 1) := by decide +kernel
theorem dX6_buyLevel_53 : decode cX6_buyLevel 53 = .ok (.dup, 1) := by decide +kernel
theorem dX6_buyLevel_54 : decode cX6_buyLevel 54 = .ok (.getfield 76, 3) := by decide +kernel
theorem dX6_buyLevel_57 : decode cX6_buyLevel 57 = .ok (.iconst 1, 1) := by decide +kernel
theorem dX6_buyLevel_58 : decode cX6_buyLevel 58 = .ok (.iadd, 1) := by decide +kernel
theorem dX6_buyLevel_59 : decode cX6_buyLevel 59 = .ok (.putfield 76, 3) := by decide +kernel
theorem dX6_buyLevel_62 : decode cX6_buyLevel 62 = .ok (.aload_n 2, 1) := by decide +kernel
theorem dX6_buyLevel_63 : decode cX6_buyLevel 63 = .ok (.getfield 76, 3) := by decide +kernel
theorem dX6_buyLevel_66 : decode cX6_buyLevel 66 = .ok (.ireturn, 1) := by decide +kernel
theorem dX6_buy_0 : decode cX6_buy 0 = .ok (.aload_n 0, 1) := by decide +kernel
theorem dX6_buy_1 : decode cX6_buy 1 = .ok (.iload_n 1, 1) := by decide +kernel
theorem dX6_buy_2 : decode cX6_buy 2 = .ok (.invokevirtual 57, 3) := by decide +kernel
theorem dX6_buy_5 : decode cX6_buy 5 = .ok (.astore_n 3, 1) := by decide +kernel
theorem dX6_buy_6 : decode cX6_buy 6 = .ok (.iload_n 2, 1) := by decide +kernel
theorem dX6_buy_7 : decode cX6_buy 7 = .ok (.invokestatic 81, 3) := by decide +kernel
theorem dX6_buy_10 : decode cX6_buy 10 = .ok (.aload_n 3, 1) := by decide +kernel
theorem dX6_buy_11 : decode cX6_buy 11 = .ok (.getfield 85, 3) := by decide +kernel
theorem dX6_buy_14 : decode cX6_buy 14 = .ok (.iload_n 2, 1) := by decide +kernel
theorem dX6_buy_15 : decode cX6_buy 15 = .ok (.iaload, 1) := by decide +kernel
theorem dX6_buy_16 : decode cX6_buy 16 = .ok (.istore 4, 2) := by decide +kernel
theorem dX6_buy_18 : decode cX6_buy 18 = .ok (.iload 4, 2) := by decide +kernel
theorem dX6_buy_20 : decode cX6_buy 20 = .ok (.iconst (-1), 1) := by decide +kernel
theorem dX6_buy_21 : decode cX6_buy 21 = .ok (.if_icmp .ne 13, 3) := by decide +kernel
theorem dX6_buy_24 : decode cX6_buy 24 = .ok (.new 89, 3) := by decide +kernel
theorem dX6_buy_27 : decode cX6_buy 27 = .ok (.dup, 1) := by decide +kernel
theorem dX6_buy_28 : decode cX6_buy 28 = .ok (.ldc 91, 2) := by decide +kernel
theorem dX6_buy_30 : decode cX6_buy 30 = .ok (.invokespecial 93, 3) := by decide +kernel
theorem dX6_buy_33 : decode cX6_buy 33 = .ok (.athrow, 1) := by decide +kernel
theorem dX6_buy_34 : decode cX6_buy 34 = .ok (.aload_n 3, 1) := by decide +kernel
theorem dX6_buy_35 : decode cX6_buy 35 = .ok (.getfield 61, 3) := by decide +kernel
theorem dX6_buy_38 : decode cX6_buy 38 = .ok (.iload 4, 2) := by decide +kernel
theorem dX6_buy_40 : decode cX6_buy 40 = .ok (.invokestatic 94, 3) := by decide +kernel
theorem dX6_buy_43 : decode cX6_buy 43 = .ok (.if_icmp .ge 13, 3) := by decide +kernel
theorem dX6_buy_46 : decode cX6_buy 46 = .ok (.new 48, 3) := by decide +kernel
theorem dX6_buy_49 : decode cX6_buy 49 = .ok (.dup, 1) := by decide +kernel
theorem dX6_buy_50 : decode cX6_buy 50 = .ok (.ldc 74, 2) := by decide +kernel
theorem dX6_buy_52 : decode cX6_buy 52 = .ok (.invokespecial 52, 3) := by decide +kernel
theorem dX6_buy_55 : decode cX6_buy 55 = .ok (.athrow, 1) := by decide +kernel
theorem dX6_buy_56 : decode cX6_buy 56 = .ok (.aload_n 3, 1) := by decide +kernel
theorem dX6_buy_57 : decode cX6_buy 57 = .ok (.getfield 98, 3) := by decide +kernel
theorem dX6_buy_60 : decode cX6_buy 60 = .ok (.iload 4, 2) := by decide +kernel
theorem dX6_buy_62 : decode cX6_buy 62 = .ok (.iconst 1, 1) := by decide +kernel
theorem dX6_buy_63 : decode cX6_buy 63 = .ok (.invokevirtual 102, 3) := by decide +kernel
theorem dX6_buy_66 : decode cX6_buy 66 = .ok (.ifCond .ne 13, 3) := by decide +kernel
theorem dX6_buy_69 : decode cX6_buy 69 = .ok (.new 48, 3) := by decide +kernel
theorem dX6_buy_72 : decode cX6_buy 72 = .ok (.dup, 1) := by decide +kernel
theorem dX6_buy_73 : decode cX6_buy 73 = .ok (.ldc 107, 2) := by decide +kernel
theorem dX6_buy_75 : decode cX6_buy 75 = .ok (.invokespecial 52, 3) := by decide +kernel
theorem dX6_buy_78 : decode cX6_buy 78 = .ok (.athrow, 1) := by decide +kernel
theorem dX6_buy_79 : decode cX6_buy 79 = .ok (.aload_n 3, 1) := by decide +kernel
theorem dX6_buy_80 : decode cX6_buy 80 = .ok (.getfield 85, 3) := by decide +kernel
theorem dX6_buy_83 : decode cX6_buy 83 = .ok (.iload_n 2, 1) := by decide +kernel
theorem dX6_buy_84 : decode cX6_buy 84 = .ok (.iconst (-1), 1) := by decide +kernel
theorem dX6_buy_85 : decode cX6_buy 85 = .ok (.iastore, 1) := by decide +kernel
theorem dX6_buy_86 : decode cX6_buy 86 = .ok (.aload_n 3, 1) := by decide +kernel
theorem dX6_buy_87 : decode cX6_buy 87 = .ok (.dup, 1) := by decide +kernel
theorem dX6_buy_88 : decode cX6_buy 88 = .ok (.getfield 61, 3) := by decide +kernel
theorem dX6_buy_91 : decode cX6_buy 91 = .ok (.iload 4, 2) := by decide +kernel
theorem dX6_buy_93 : decode cX6_buy 93 = .ok (.invokestatic 94, 3) := by decide +kernel
theorem dX6_buy_96 : decode cX6_buy 96 = .ok (.isub, 1) := by decide +kernel
theorem dX6_buy_97 : decode cX6_buy 97 = .ok (.putfield 61, 3) := by decide +kernel
theorem dX6_buy_100 : decode cX6_buy 100 = .ok (.aload_n 3, 1) := by decide +kernel
theorem dX6_buy_101 : decode cX6_buy 101 = .ok (.invokevirtual 109, 3) := by decide +kernel
theorem dX6_buy_104 : decode cX6_buy 104 = .ok (.aload_n 3, 1) := by decide +kernel
theorem dX6_buy_105 : decode cX6_buy 105 = .ok (.getfield 61, 3) := by decide +kernel
theorem dX6_buy_108 : decode cX6_buy 108 = .ok (.ireturn, 1) := by decide +kernel
theorem dX6_sell_0 : decode cX6_sell 0 = .ok (.aload_n 0, 1) := by decide +kernel
theorem dX6_sell_1 : decode cX6_sell 1 = .ok (.iload_n 1, 1) := by decide +kernel
theorem dX6_sell_2 : decode cX6_sell 2 = .ok (.invokevirtual 57, 3) := by decide +kernel
theorem dX6_sell_5 : decode cX6_sell 5 = .ok (.astore_n 3, 1) := by decide +kernel
theorem dX6_sell_6 : decode cX6_sell 6 = .ok (.aload_n 3, 1) := by decide +kernel
theorem dX6_sell_7 : decode cX6_sell 7 = .ok (.getfield 98, 3) := by decide +kernel
theorem dX6_sell_10 : decode cX6_sell 10 = .ok (.iload_n 2, 1) := by decide +kernel
theorem dX6_sell_11 : decode cX6_sell 11 = .ok (.invokestatic 112, 3) := by decide +kernel
theorem dX6_sell_14 : decode cX6_sell 14 = .ok (.aload_n 3, 1) := by decide +kernel
theorem dX6_sell_15 : decode cX6_sell 15 = .ok (.getfield 98, 3) := by decide +kernel
theorem dX6_sell_18 : decode cX6_sell 18 = .ok (.getfield 116, 3) := by decide +kernel
theorem dX6_sell_21 : decode cX6_sell 21 = .ok (.iload_n 2, 1) := by decide +kernel
theorem dX6_sell_22 : decode cX6_sell 22 = .ok (.iaload, 1) := by decide +kernel
theorem dX6_sell_23 : decode cX6_sell 23 = .ok (.istore 4, 2) := by decide +kernel
theorem dX6_sell_25 : decode cX6_sell 25 = .ok (.aload_n 3, 1) := by decide +kernel
theorem dX6_sell_26 : decode cX6_sell 26 = .ok (.getfield 98, 3) := by decide +kernel
theorem dX6_sell_29 : decode cX6_sell 29 = .ok (.getfield 119, 3) := by decide +kernel
theorem dX6_sell_32 : decode cX6_sell 32 = .ok (.iload_n 2, 1) := by decide +kernel
theorem dX6_sell_33 : decode cX6_sell 33 = .ok (.iaload, 1) := by decide +kernel
theorem dX6_sell_34 : decode cX6_sell 34 = .ok (.invokestatic 122, 3) := by decide +kernel
theorem dX6_sell_37 : decode cX6_sell 37 = .ok (.istore 5, 2) := by decide +kernel
theorem dX6_sell_39 : decode cX6_sell 39 = .ok (.aload_n 3, 1) := by decide +kernel
theorem dX6_sell_40 : decode cX6_sell 40 = .ok (.getfield 98, 3) := by decide +kernel
theorem dX6_sell_43 : decode cX6_sell 43 = .ok (.iload_n 2, 1) := by decide +kernel
theorem dX6_sell_44 : decode cX6_sell 44 = .ok (.invokevirtual 125, 3) := by decide +kernel
theorem dX6_sell_47 : decode cX6_sell 47 = .ok (.aload_n 0, 1) := by decide +kernel
theorem dX6_sell_48 : decode cX6_sell 48 = .ok (.getfield 18, 3) := by decide +kernel
theorem dX6_sell_51 : decode cX6_sell 51 = .ok (.iload 4, 2) := by decide +kernel
theorem dX6_sell_53 : decode cX6_sell 53 = .ok (.iload 5, 2) := by decide +kernel
theorem dX6_sell_55 : decode cX6_sell 55 = .ok (.invokevirtual 128, 3) := by decide +kernel
theorem dX6_sell_58 : decode cX6_sell 58 = .ok (.aload_n 3, 1) := by decide +kernel
theorem dX6_sell_59 : decode cX6_sell 59 = .ok (.iload 4, 2) := by decide +kernel
theorem dX6_sell_61 : decode cX6_sell 61 = .ok (.invokestatic 94, 3) := by decide +kernel
theorem dX6_sell_64 : decode cX6_sell 64 = .ok (.iload 5, 2) := by decide +kernel
theorem dX6_sell_66 : decode cX6_sell 66 = .ok (.imul, 1) := by decide +kernel
theorem dX6_sell_67 : decode cX6_sell 67 = .ok (.invokevirtual 132, 3) := by decide +kernel
theorem dX6_sell_70 : decode cX6_sell 70 = .ok (.aload_n 3, 1) := by decide +kernel
theorem dX6_sell_71 : decode cX6_sell 71 = .ok (.getfield 61, 3) := by decide +kernel
theorem dX6_sell_74 : decode cX6_sell 74 = .ok (.ireturn, 1) := by decide +kernel
theorem dX6_toBoard_0 : decode cX6_toBoard 0 = .ok (.aload_n 0, 1) := by decide +kernel
theorem dX6_toBoard_1 : decode cX6_toBoard 1 = .ok (.iload_n 1, 1) := by decide +kernel
theorem dX6_toBoard_2 : decode cX6_toBoard 2 = .ok (.invokevirtual 57, 3) := by decide +kernel
theorem dX6_toBoard_5 : decode cX6_toBoard 5 = .ok (.astore_n 3, 1) := by decide +kernel
theorem dX6_toBoard_6 : decode cX6_toBoard 6 = .ok (.aload_n 3, 1) := by decide +kernel
theorem dX6_toBoard_7 : decode cX6_toBoard 7 = .ok (.getfield 98, 3) := by decide +kernel
theorem dX6_toBoard_10 : decode cX6_toBoard 10 = .ok (.iload_n 2, 1) := by decide +kernel
theorem dX6_toBoard_11 : decode cX6_toBoard 11 = .ok (.invokestatic 112, 3) := by decide +kernel
theorem dX6_toBoard_14 : decode cX6_toBoard 14 = .ok (.aload_n 3, 1) := by decide +kernel
theorem dX6_toBoard_15 : decode cX6_toBoard 15 = .ok (.getfield 135, 3) := by decide +kernel
theorem dX6_toBoard_18 : decode cX6_toBoard 18 = .ok (.getfield 138, 3) := by decide +kernel
theorem dX6_toBoard_21 : decode cX6_toBoard 21 = .ok (.aload_n 3, 1) := by decide +kernel
theorem dX6_toBoard_22 : decode cX6_toBoard 22 = .ok (.getfield 76, 3) := by decide +kernel
theorem dX6_toBoard_25 : decode cX6_toBoard 25 = .ok (.if_icmp .lt 13, 3) := by decide +kernel
theorem dX6_toBoard_28 : decode cX6_toBoard 28 = .ok (.new 48, 3) := by decide +kernel
theorem dX6_toBoard_31 : decode cX6_toBoard 31 = .ok (.dup, 1) := by decide +kernel
theorem dX6_toBoard_32 : decode cX6_toBoard 32 = .ok (.ldc 141, 2) := by decide +kernel
theorem dX6_toBoard_34 : decode cX6_toBoard 34 = .ok (.invokespecial 52, 3) := by decide +kernel
theorem dX6_toBoard_37 : decode cX6_toBoard 37 = .ok (.athrow, 1) := by decide +kernel
theorem dX6_toBoard_38 : decode cX6_toBoard 38 = .ok (.aload_n 3, 1) := by decide +kernel
theorem dX6_toBoard_39 : decode cX6_toBoard 39 = .ok (.getfield 135, 3) := by decide +kernel
theorem dX6_toBoard_42 : decode cX6_toBoard 42 = .ok (.aload_n 3, 1) := by decide +kernel
theorem dX6_toBoard_43 : decode cX6_toBoard 43 = .ok (.getfield 98, 3) := by decide +kernel
theorem dX6_toBoard_46 : decode cX6_toBoard 46 = .ok (.getfield 116, 3) := by decide +kernel
theorem dX6_toBoard_49 : decode cX6_toBoard 49 = .ok (.iload_n 2, 1) := by decide +kernel
theorem dX6_toBoard_50 : decode cX6_toBoard 50 = .ok (.iaload, 1) := by decide +kernel
theorem dX6_toBoard_51 : decode cX6_toBoard 51 = .ok (.aload_n 3, 1) := by decide +kernel
theorem dX6_toBoard_52 : decode cX6_toBoard 52 = .ok (.getfield 98, 3) := by decide +kernel
theorem dX6_toBoard_55 : decode cX6_toBoard 55 = .ok (.getfield 119, 3) := by decide +kernel
theorem dX6_toBoard_58 : decode cX6_toBoard 58 = .ok (.iload_n 2, 1) := by decide +kernel
theorem dX6_toBoard_59 : decode cX6_toBoard 59 = .ok (.iaload, 1) := by decide +kernel
theorem dX6_toBoard_60 : decode cX6_toBoard 60 = .ok (.invokevirtual 102, 3) := by decide +kernel
theorem dX6_toBoard_63 : decode cX6_toBoard 63 = .ok (.ifCond .eq 11, 3) := by decide +kernel
theorem dX6_toBoard_66 : decode cX6_toBoard 66 = .ok (.aload_n 3, 1) := by decide +kernel
theorem dX6_toBoard_67 : decode cX6_toBoard 67 = .ok (.getfield 98, 3) := by decide +kernel
theorem dX6_toBoard_70 : decode cX6_toBoard 70 = .ok (.iload_n 2, 1) := by decide +kernel
theorem dX6_toBoard_71 : decode cX6_toBoard 71 = .ok (.invokevirtual 125, 3) := by decide +kernel
theorem dX6_toBoard_74 : decode cX6_toBoard 74 = .ok (.aload_n 3, 1) := by decide +kernel
theorem dX6_toBoard_75 : decode cX6_toBoard 75 = .ok (.getfield 135, 3) := by decide +kernel
theorem dX6_toBoard_78 : decode cX6_toBoard 78 = .ok (.getfield 138, 3) := by decide +kernel
theorem dX6_toBoard_81 : decode cX6_toBoard 81 = .ok (.ireturn, 1) := by decide +kernel
theorem dX6_toBench_0 : decode cX6_toBench 0 = .ok (.aload_n 0, 1) := by decide +kernel
theorem dX6_toBench_1 : decode cX6_toBench 1 = .ok (.iload_n 1, 1) := by decide +kernel
theorem dX6_toBench_2 : decode cX6_toBench 2 = .ok (.invokevirtual 57, 3) := by decide +kernel
theorem dX6_toBench_5 : decode cX6_toBench 5 = .ok (.astore_n 3, 1) := by decide +kernel
theorem dX6_toBench_6 : decode cX6_toBench 6 = .ok (.aload_n 3, 1) := by decide +kernel
theorem dX6_toBench_7 : decode cX6_toBench 7 = .ok (.getfield 135, 3) := by decide +kernel
theorem dX6_toBench_10 : decode cX6_toBench 10 = .ok (.iload_n 2, 1) := by decide +kernel
theorem dX6_toBench_11 : decode cX6_toBench 11 = .ok (.invokestatic 112, 3) := by decide +kernel
theorem dX6_toBench_14 : decode cX6_toBench 14 = .ok (.aload_n 3, 1) := by decide +kernel
theorem dX6_toBench_15 : decode cX6_toBench 15 = .ok (.getfield 98, 3) := by decide +kernel
theorem dX6_toBench_18 : decode cX6_toBench 18 = .ok (.aload_n 3, 1) := by decide +kernel
theorem dX6_toBench_19 : decode cX6_toBench 19 = .ok (.getfield 135, 3) := by decide +kernel
theorem dX6_toBench_22 : decode cX6_toBench 22 = .ok (.getfield 116, 3) := by decide +kernel
theorem dX6_toBench_25 : decode cX6_toBench 25 = .ok (.iload_n 2, 1) := by decide +kernel
theorem dX6_toBench_26 : decode cX6_toBench 26 = .ok (.iaload, 1) := by decide +kernel
theorem dX6_toBench_27 : decode cX6_toBench 27 = .ok (.aload_n 3, 1) := by decide +kernel
theorem dX6_toBench_28 : decode cX6_toBench 28 = .ok (.getfield 135, 3) := by decide +kernel
theorem dX6_toBench_31 : decode cX6_toBench 31 = .ok (.getfield 119, 3) := by decide +kernel
theorem dX6_toBench_34 : decode cX6_toBench 34 = .ok (.iload_n 2, 1) := by decide +kernel
theorem dX6_toBench_35 : decode cX6_toBench 35 = .ok (.iaload, 1) := by decide +kernel
theorem dX6_toBench_36 : decode cX6_toBench 36 = .ok (.invokevirtual 102, 3) := by decide +kernel
theorem dX6_toBench_39 : decode cX6_toBench 39 = .ok (.ifCond .ne 13, 3) := by decide +kernel
theorem dX6_toBench_42 : decode cX6_toBench 42 = .ok (.new 48, 3) := by decide +kernel
theorem dX6_toBench_45 : decode cX6_toBench 45 = .ok (.dup, 1) := by decide +kernel
theorem dX6_toBench_46 : decode cX6_toBench 46 = .ok (.ldc 107, 2) := by decide +kernel
theorem dX6_toBench_48 : decode cX6_toBench 48 = .ok (.invokespecial 52, 3) := by decide +kernel
theorem dX6_toBench_51 : decode cX6_toBench 51 = .ok (.athrow, 1) := by decide +kernel
theorem dX6_toBench_52 : decode cX6_toBench 52 = .ok (.aload_n 3, 1) := by decide +kernel
theorem dX6_toBench_53 : decode cX6_toBench 53 = .ok (.getfield 135, 3) := by decide +kernel
theorem dX6_toBench_56 : decode cX6_toBench 56 = .ok (.iload_n 2, 1) := by decide +kernel
theorem dX6_toBench_57 : decode cX6_toBench 57 = .ok (.invokevirtual 125, 3) := by decide +kernel
theorem dX6_toBench_60 : decode cX6_toBench 60 = .ok (.aload_n 3, 1) := by decide +kernel
theorem dX6_toBench_61 : decode cX6_toBench 61 = .ok (.invokevirtual 109, 3) := by decide +kernel
theorem dX6_toBench_64 : decode cX6_toBench 64 = .ok (.aload_n 3, 1) := by decide +kernel
theorem dX6_toBench_65 : decode cX6_toBench 65 = .ok (.getfield 98, 3) := by decide +kernel
theorem dX6_toBench_68 : decode cX6_toBench 68 = .ok (.getfield 138, 3) := by decide +kernel
theorem dX6_toBench_71 : decode cX6_toBench 71 = .ok (.ireturn, 1) := by decide +kernel
theorem dX6_round_0 : decode cX6_round 0 = .ok (.aload_n 0, 1) := by decide +kernel
theorem dX6_round_1 : decode cX6_round 1 = .ok (.getfield 143, 3) := by decide +kernel
theorem dX6_round_4 : decode cX6_round 4 = .ok (.sipush 200, 3) := by decide +kernel
theorem dX6_round_7 : decode cX6_round 7 = .ok (.if_icmp .lt 13, 3) := by decide +kernel
theorem dX6_round_10 : decode cX6_round 10 = .ok (.new 48, 3) := by decide +kernel
theorem dX6_round_13 : decode cX6_round 13 = .ok (.dup, 1) := by decide +kernel
theorem dX6_round_14 : decode cX6_round 14 = .ok (.ldc 146, 2) := by decide +kernel
theorem dX6_round_16 : decode cX6_round 16 = .ok (.invokespecial 52, 3) := by decide +kernel
theorem dX6_round_19 : decode cX6_round 19 = .ok (.athrow, 1) := by decide +kernel
theorem dX6_round_20 : decode cX6_round 20 = .ok (.aload_n 0, 1) := by decide +kernel
theorem dX6_round_21 : decode cX6_round 21 = .ok (.getfield 143, 3) := by decide +kernel
theorem dX6_round_24 : decode cX6_round 24 = .ok (.iconst 3, 1) := by decide +kernel
theorem dX6_round_25 : decode cX6_round 25 = .ok (.irem, 1) := by decide +kernel
theorem dX6_round_26 : decode cX6_round 26 = .ok (.iconst 4, 1) := by decide +kernel
theorem dX6_round_27 : decode cX6_round 27 = .ok (.imul, 1) := by decide +kernel
theorem dX6_round_28 : decode cX6_round 28 = .ok (.istore_n 1, 1) := by decide +kernel
theorem dX6_round_29 : decode cX6_round 29 = .ok (.iconst 0, 1) := by decide +kernel
theorem dX6_round_30 : decode cX6_round 30 = .ok (.istore_n 2, 1) := by decide +kernel
theorem dX6_round_31 : decode cX6_round 31 = .ok (.iload_n 2, 1) := by decide +kernel
theorem dX6_round_32 : decode cX6_round 32 = .ok (.iconst 4, 1) := by decide +kernel
theorem dX6_round_33 : decode cX6_round 33 = .ok (.if_icmp .ge 29, 3) := by decide +kernel
theorem dX6_round_36 : decode cX6_round 36 = .ok (.aload_n 0, 1) := by decide +kernel
theorem dX6_round_37 : decode cX6_round 37 = .ok (.getstatic 148, 3) := by decide +kernel
theorem dX6_round_40 : decode cX6_round 40 = .ok (.iload_n 1, 1) := by decide +kernel
theorem dX6_round_41 : decode cX6_round 41 = .ok (.iload_n 2, 1) := by decide +kernel
theorem dX6_round_42 : decode cX6_round 42 = .ok (.iadd, 1) := by decide +kernel
theorem dX6_round_43 : decode cX6_round 43 = .ok (.iaload, 1) := by decide +kernel
theorem dX6_round_44 : decode cX6_round 44 = .ok (.getstatic 148, 3) := by decide +kernel
theorem dX6_round_47 : decode cX6_round 47 = .ok (.iload_n 1, 1) := by decide +kernel
theorem dX6_round_48 : decode cX6_round 48 = .ok (.iload_n 2, 1) := by decide +kernel
theorem dX6_round_49 : decode cX6_round 49 = .ok (.iadd, 1) := by decide +kernel
theorem dX6_round_50 : decode cX6_round 50 = .ok (.iconst 1, 1) := by decide +kernel
theorem dX6_round_51 : decode cX6_round 51 = .ok (.iadd, 1) := by decide +kernel
theorem dX6_round_52 : decode cX6_round 52 = .ok (.iaload, 1) := by decide +kernel
theorem dX6_round_53 : decode cX6_round 53 = .ok (.invokevirtual 151, 3) := by decide +kernel
theorem dX6_round_56 : decode cX6_round 56 = .ok (.iinc 2 2, 3) := by decide +kernel
theorem dX6_round_59 : decode cX6_round 59 = .ok (.goto (-28), 3) := by decide +kernel
theorem dX6_round_62 : decode cX6_round 62 = .ok (.iconst 0, 1) := by decide +kernel
theorem dX6_round_63 : decode cX6_round 63 = .ok (.istore_n 2, 1) := by decide +kernel
theorem dX6_round_64 : decode cX6_round 64 = .ok (.iload_n 2, 1) := by decide +kernel
theorem dX6_round_65 : decode cX6_round 65 = .ok (.iconst 4, 1) := by decide +kernel
theorem dX6_round_66 : decode cX6_round 66 = .ok (.if_icmp .ge 18, 3) := by decide +kernel
theorem dX6_round_69 : decode cX6_round 69 = .ok (.aload_n 0, 1) := by decide +kernel
theorem dX6_round_70 : decode cX6_round 70 = .ok (.getfield 11, 3) := by decide +kernel
theorem dX6_round_73 : decode cX6_round 73 = .ok (.iload_n 2, 1) := by decide +kernel
theorem dX6_round_74 : decode cX6_round 74 = .ok (.aaload, 1) := by decide +kernel
theorem dX6_round_75 : decode cX6_round 75 = .ok (.invokevirtual 154, 3) := by decide +kernel
theorem dX6_round_78 : decode cX6_round 78 = .ok (.iinc 2 1, 3) := by decide +kernel
theorem dX6_round_81 : decode cX6_round 81 = .ok (.goto (-17), 3) := by decide +kernel
theorem dX6_round_84 : decode cX6_round 84 = .ok (.aload_n 0, 1) := by decide +kernel
theorem dX6_round_85 : decode cX6_round 85 = .ok (.invokevirtual 157, 3) := by decide +kernel
theorem dX6_round_88 : decode cX6_round 88 = .ok (.aload_n 0, 1) := by decide +kernel
theorem dX6_round_89 : decode cX6_round 89 = .ok (.dup, 1) := by decide +kernel
theorem dX6_round_90 : decode cX6_round 90 = .ok (.getfield 143, 3) := by decide +kernel
theorem dX6_round_93 : decode cX6_round 93 = .ok (.iconst 1, 1) := by decide +kernel
theorem dX6_round_94 : decode cX6_round 94 = .ok (.iadd, 1) := by decide +kernel
theorem dX6_round_95 : decode cX6_round 95 = .ok (.putfield 143, 3) := by decide +kernel
theorem dX6_round_98 : decode cX6_round 98 = .ok (.aload_n 0, 1) := by decide +kernel
theorem dX6_round_99 : decode cX6_round 99 = .ok (.invokevirtual 160, 3) := by decide +kernel
theorem dX6_round_102 : decode cX6_round 102 = .ok (.ireturn, 1) := by decide +kernel
theorem dX6_rounds_0 : decode cX6_rounds 0 = .ok (.aload_n 0, 1) := by decide +kernel
theorem dX6_rounds_1 : decode cX6_rounds 1 = .ok (.getfield 143, 3) := by decide +kernel
theorem dX6_rounds_4 : decode cX6_rounds 4 = .ok (.ireturn, 1) := by decide +kernel
theorem dX6_fight_0 : decode cX6_fight 0 = .ok (.aload_n 0, 1) := by decide +kernel
theorem dX6_fight_1 : decode cX6_fight 1 = .ok (.iload_n 1, 1) := by decide +kernel
theorem dX6_fight_2 : decode cX6_fight 2 = .ok (.iload_n 2, 1) := by decide +kernel
theorem dX6_fight_3 : decode cX6_fight 3 = .ok (.invokevirtual 164, 3) := by decide +kernel
theorem dX6_fight_6 : decode cX6_fight 6 = .ok (.aload_n 0, 1) := by decide +kernel
theorem dX6_fight_7 : decode cX6_fight 7 = .ok (.getfield 32, 3) := by decide +kernel
theorem dX6_fight_10 : decode cX6_fight 10 = .ok (.invokevirtual 167, 3) := by decide +kernel
theorem dX6_fight_13 : decode cX6_fight 13 = .ok (.aload_n 0, 1) := by decide +kernel
theorem dX6_fight_14 : decode cX6_fight 14 = .ok (.getfield 32, 3) := by decide +kernel
theorem dX6_fight_17 : decode cX6_fight 17 = .ok (.invokevirtual 170, 3) := by decide +kernel
theorem dX6_fight_20 : decode cX6_fight 20 = .ok (.ireturn, 1) := by decide +kernel
theorem dX6_fightByRecord_0 : decode cX6_fightByRecord 0 = .ok (.aload_n 0, 1) := by decide +kernel
theorem dX6_fightByRecord_1 : decode cX6_fightByRecord 1 = .ok (.iload_n 1, 1) := by decide +kernel
theorem dX6_fightByRecord_2 : decode cX6_fightByRecord 2 = .ok (.iload_n 2, 1) := by decide +kernel
theorem dX6_fightByRecord_3 : decode cX6_fightByRecord 3 = .ok (.invokevirtual 164, 3) := by decide +kernel
theorem dX6_fightByRecord_6 : decode cX6_fightByRecord 6 = .ok (.aload_n 0, 1) := by decide +kernel
theorem dX6_fightByRecord_7 : decode cX6_fightByRecord 7 = .ok (.getfield 32, 3) := by decide +kernel
theorem dX6_fightByRecord_10 : decode cX6_fightByRecord 10 = .ok (.invokevirtual 167, 3) := by decide +kernel
theorem dX6_fightByRecord_13 : decode cX6_fightByRecord 13 = .ok (.aload_n 0, 1) := by decide +kernel
theorem dX6_fightByRecord_14 : decode cX6_fightByRecord 14 = .ok (.iload_n 1, 1) := by decide +kernel
theorem dX6_fightByRecord_15 : decode cX6_fightByRecord 15 = .ok (.iload_n 2, 1) := by decide +kernel
theorem dX6_fightByRecord_16 : decode cX6_fightByRecord 16 = .ok (.invokevirtual 164, 3) := by decide +kernel
theorem dX6_fightByRecord_19 : decode cX6_fightByRecord 19 = .ok (.aload_n 0, 1) := by decide +kernel
theorem dX6_fightByRecord_20 : decode cX6_fightByRecord 20 = .ok (.getfield 32, 3) := by decide +kernel
theorem dX6_fightByRecord_23 : decode cX6_fightByRecord 23 = .ok (.invokevirtual 173, 3) := by decide +kernel
theorem dX6_fightByRecord_26 : decode cX6_fightByRecord 26 = .ok (.aload_n 0, 1) := by decide +kernel
theorem dX6_fightByRecord_27 : decode cX6_fightByRecord 27 = .ok (.getfield 32, 3) := by decide +kernel
theorem dX6_fightByRecord_30 : decode cX6_fightByRecord 30 = .ok (.invokevirtual 170, 3) := by decide +kernel
theorem dX6_fightByRecord_33 : decode cX6_fightByRecord 33 = .ok (.ireturn, 1) := by decide +kernel
theorem dX6_gold_0 : decode cX6_gold 0 = .ok (.aload_n 0, 1) := by decide +kernel
theorem dX6_gold_1 : decode cX6_gold 1 = .ok (.iload_n 1, 1) := by decide +kernel
theorem dX6_gold_2 : decode cX6_gold 2 = .ok (.invokevirtual 57, 3) := by decide +kernel
theorem dX6_gold_5 : decode cX6_gold 5 = .ok (.getfield 61, 3) := by decide +kernel
theorem dX6_gold_8 : decode cX6_gold 8 = .ok (.ireturn, 1) := by decide +kernel
theorem dX6_health_0 : decode cX6_health 0 = .ok (.aload_n 0, 1) := by decide +kernel
theorem dX6_health_1 : decode cX6_health 1 = .ok (.iload_n 1, 1) := by decide +kernel
theorem dX6_health_2 : decode cX6_health 2 = .ok (.invokevirtual 57, 3) := by decide +kernel
theorem dX6_health_5 : decode cX6_health 5 = .ok (.getfield 176, 3) := by decide +kernel
theorem dX6_health_8 : decode cX6_health 8 = .ok (.ireturn, 1) := by decide +kernel
theorem dX6_streak_0 : decode cX6_streak 0 = .ok (.aload_n 0, 1) := by decide +kernel
theorem dX6_streak_1 : decode cX6_streak 1 = .ok (.iload_n 1, 1) := by decide +kernel
theorem dX6_streak_2 : decode cX6_streak 2 = .ok (.invokevirtual 57, 3) := by decide +kernel
theorem dX6_streak_5 : decode cX6_streak 5 = .ok (.getfield 179, 3) := by decide +kernel
theorem dX6_streak_8 : decode cX6_streak 8 = .ok (.ireturn, 1) := by decide +kernel
theorem dX6_shopAt_0 : decode cX6_shopAt 0 = .ok (.aload_n 0, 1) := by decide +kernel
theorem dX6_shopAt_1 : decode cX6_shopAt 1 = .ok (.iload_n 1, 1) := by decide +kernel
theorem dX6_shopAt_2 : decode cX6_shopAt 2 = .ok (.invokevirtual 57, 3) := by decide +kernel
theorem dX6_shopAt_5 : decode cX6_shopAt 5 = .ok (.astore_n 3, 1) := by decide +kernel
theorem dX6_shopAt_6 : decode cX6_shopAt 6 = .ok (.iload_n 2, 1) := by decide +kernel
theorem dX6_shopAt_7 : decode cX6_shopAt 7 = .ok (.invokestatic 81, 3) := by decide +kernel
theorem dX6_shopAt_10 : decode cX6_shopAt 10 = .ok (.aload_n 3, 1) := by decide +kernel
theorem dX6_shopAt_11 : decode cX6_shopAt 11 = .ok (.getfield 85, 3) := by decide +kernel
theorem dX6_shopAt_14 : decode cX6_shopAt 14 = .ok (.iload_n 2, 1) := by decide +kernel
theorem dX6_shopAt_15 : decode cX6_shopAt 15 = .ok (.iaload, 1) := by decide +kernel
theorem dX6_shopAt_16 : decode cX6_shopAt 16 = .ok (.ireturn, 1) := by decide +kernel
theorem dX6_benchAt_0 : decode cX6_benchAt 0 = .ok (.aload_n 0, 1) := by decide +kernel
theorem dX6_benchAt_1 : decode cX6_benchAt 1 = .ok (.iload_n 1, 1) := by decide +kernel
theorem dX6_benchAt_2 : decode cX6_benchAt 2 = .ok (.invokevirtual 57, 3) := by decide +kernel
theorem dX6_benchAt_5 : decode cX6_benchAt 5 = .ok (.astore_n 3, 1) := by decide +kernel
theorem dX6_benchAt_6 : decode cX6_benchAt 6 = .ok (.iload_n 2, 1) := by decide +kernel
theorem dX6_benchAt_7 : decode cX6_benchAt 7 = .ok (.ifCond .lt 9, 3) := by decide +kernel
theorem dX6_benchAt_10 : decode cX6_benchAt 10 = .ok (.iload_n 2, 1) := by decide +kernel
theorem dX6_benchAt_11 : decode cX6_benchAt 11 = .ok (.bipush 6, 2) := by decide +kernel
theorem dX6_benchAt_13 : decode cX6_benchAt 13 = .ok (.if_icmp .lt 13, 3) := by decide +kernel
theorem dX6_benchAt_16 : decode cX6_benchAt 16 = .ok (.new 182, 3) := by decide +kernel
theorem dX6_benchAt_19 : decode cX6_benchAt 19 = .ok (.dup, 1) := by decide +kernel
theorem dX6_benchAt_20 : decode cX6_benchAt 20 = .ok (.ldc 184, 2) := by decide +kernel
theorem dX6_benchAt_22 : decode cX6_benchAt 22 = .ok (.invokespecial 186, 3) := by decide +kernel
theorem dX6_benchAt_25 : decode cX6_benchAt 25 = .ok (.athrow, 1) := by decide +kernel
theorem dX6_benchAt_26 : decode cX6_benchAt 26 = .ok (.aload_n 3, 1) := by decide +kernel
theorem dX6_benchAt_27 : decode cX6_benchAt 27 = .ok (.getfield 98, 3) := by decide +kernel
theorem dX6_benchAt_30 : decode cX6_benchAt 30 = .ok (.iload_n 2, 1) := by decide +kernel
theorem dX6_benchAt_31 : decode cX6_benchAt 31 = .ok (.invokevirtual 187, 3) := by decide +kernel
theorem dX6_benchAt_34 : decode cX6_benchAt 34 = .ok (.ireturn, 1) := by decide +kernel
theorem dX6_boardAt_0 : decode cX6_boardAt 0 = .ok (.aload_n 0, 1) := by decide +kernel
theorem dX6_boardAt_1 : decode cX6_boardAt 1 = .ok (.iload_n 1, 1) := by decide +kernel
theorem dX6_boardAt_2 : decode cX6_boardAt 2 = .ok (.invokevirtual 57, 3) := by decide +kernel
theorem dX6_boardAt_5 : decode cX6_boardAt 5 = .ok (.astore_n 3, 1) := by decide +kernel
theorem dX6_boardAt_6 : decode cX6_boardAt 6 = .ok (.iload_n 2, 1) := by decide +kernel
theorem dX6_boardAt_7 : decode cX6_boardAt 7 = .ok (.ifCond .lt 8, 3) := by decide +kernel
theorem dX6_boardAt_10 : decode cX6_boardAt 10 = .ok (.iload_n 2, 1) := by decide +kernel
theorem dX6_boardAt_11 : decode cX6_boardAt 11 = .ok (.iconst 5, 1) := by decide +kernel
theorem dX6_boardAt_12 : decode cX6_boardAt 12 = .ok (.if_icmp .lt 13, 3) := by decide +kernel
theorem dX6_boardAt_15 : decode cX6_boardAt 15 = .ok (.new 182, 3) := by decide +kernel
theorem dX6_boardAt_18 : decode cX6_boardAt 18 = .ok (.dup, 1) := by decide +kernel
theorem dX6_boardAt_19 : decode cX6_boardAt 19 = .ok (.ldc 190, 2) := by decide +kernel
theorem dX6_boardAt_21 : decode cX6_boardAt 21 = .ok (.invokespecial 186, 3) := by decide +kernel
theorem dX6_boardAt_24 : decode cX6_boardAt 24 = .ok (.athrow, 1) := by decide +kernel
theorem dX6_boardAt_25 : decode cX6_boardAt 25 = .ok (.aload_n 3, 1) := by decide +kernel
theorem dX6_boardAt_26 : decode cX6_boardAt 26 = .ok (.getfield 135, 3) := by decide +kernel
theorem dX6_boardAt_29 : decode cX6_boardAt 29 = .ok (.iload_n 2, 1) := by decide +kernel
theorem dX6_boardAt_30 : decode cX6_boardAt 30 = .ok (.invokevirtual 187, 3) := by decide +kernel
theorem dX6_boardAt_33 : decode cX6_boardAt 33 = .ok (.ireturn, 1) := by decide +kernel
theorem dX6_blow_0 : decode cX6_blow 0 = .ok (.aload_n 0, 1) := by decide +kernel
theorem dX6_blow_1 : decode cX6_blow 1 = .ok (.iload_n 1, 1) := by decide +kernel
theorem dX6_blow_2 : decode cX6_blow 2 = .ok (.invokevirtual 57, 3) := by decide +kernel
theorem dX6_blow_5 : decode cX6_blow 5 = .ok (.astore_n 3, 1) := by decide +kernel
theorem dX6_blow_6 : decode cX6_blow 6 = .ok (.aload_n 3, 1) := by decide +kernel
theorem dX6_blow_7 : decode cX6_blow 7 = .ok (.getfield 135, 3) := by decide +kernel
theorem dX6_blow_10 : decode cX6_blow 10 = .ok (.iload_n 2, 1) := by decide +kernel
theorem dX6_blow_11 : decode cX6_blow 11 = .ok (.invokestatic 112, 3) := by decide +kernel
theorem dX6_blow_14 : decode cX6_blow 14 = .ok (.aload_n 3, 1) := by decide +kernel
theorem dX6_blow_15 : decode cX6_blow 15 = .ok (.getfield 135, 3) := by decide +kernel
theorem dX6_blow_18 : decode cX6_blow 18 = .ok (.iload_n 2, 1) := by decide +kernel
theorem dX6_blow_19 : decode cX6_blow 19 = .ok (.invokevirtual 192, 3) := by decide +kernel
theorem dX6_blow_22 : decode cX6_blow 22 = .ok (.ireturn, 1) := by decide +kernel
theorem dX6_pool_0 : decode cX6_pool 0 = .ok (.iload_n 1, 1) := by decide +kernel
theorem dX6_pool_1 : decode cX6_pool 1 = .ok (.invokestatic 195, 3) := by decide +kernel
theorem dX6_pool_4 : decode cX6_pool 4 = .ok (.aload_n 0, 1) := by decide +kernel
theorem dX6_pool_5 : decode cX6_pool 5 = .ok (.getfield 18, 3) := by decide +kernel
theorem dX6_pool_8 : decode cX6_pool 8 = .ok (.getfield 198, 3) := by decide +kernel
theorem dX6_pool_11 : decode cX6_pool 11 = .ok (.iload_n 1, 1) := by decide +kernel
theorem dX6_pool_12 : decode cX6_pool 12 = .ok (.iaload, 1) := by decide +kernel
theorem dX6_pool_13 : decode cX6_pool 13 = .ok (.ireturn, 1) := by decide +kernel
theorem dX6_out_0 : decode cX6_out 0 = .ok (.iload_n 1, 1) := by decide +kernel
theorem dX6_out_1 : decode cX6_out 1 = .ok (.invokestatic 195, 3) := by decide +kernel
theorem dX6_out_4 : decode cX6_out 4 = .ok (.iconst 0, 1) := by decide +kernel
theorem dX6_out_5 : decode cX6_out 5 = .ok (.istore_n 2, 1) := by decide +kernel
theorem dX6_out_6 : decode cX6_out 6 = .ok (.iconst 0, 1) := by decide +kernel
theorem dX6_out_7 : decode cX6_out 7 = .ok (.istore_n 3, 1) := by decide +kernel
theorem dX6_out_8 : decode cX6_out 8 = .ok (.iload_n 3, 1) := by decide +kernel
theorem dX6_out_9 : decode cX6_out 9 = .ok (.iconst 4, 1) := by decide +kernel
theorem dX6_out_10 : decode cX6_out 10 = .ok (.if_icmp .ge 22, 3) := by decide +kernel
theorem dX6_out_13 : decode cX6_out 13 = .ok (.iload_n 2, 1) := by decide +kernel
theorem dX6_out_14 : decode cX6_out 14 = .ok (.aload_n 0, 1) := by decide +kernel
theorem dX6_out_15 : decode cX6_out 15 = .ok (.getfield 11, 3) := by decide +kernel
theorem dX6_out_18 : decode cX6_out 18 = .ok (.iload_n 3, 1) := by decide +kernel
theorem dX6_out_19 : decode cX6_out 19 = .ok (.aaload, 1) := by decide +kernel
theorem dX6_out_20 : decode cX6_out 20 = .ok (.iload_n 1, 1) := by decide +kernel
theorem dX6_out_21 : decode cX6_out 21 = .ok (.invokevirtual 201, 3) := by decide +kernel
theorem dX6_out_24 : decode cX6_out 24 = .ok (.iadd, 1) := by decide +kernel
theorem dX6_out_25 : decode cX6_out 25 = .ok (.istore_n 2, 1) := by decide +kernel
theorem dX6_out_26 : decode cX6_out 26 = .ok (.iinc 3 1, 3) := by decide +kernel
theorem dX6_out_29 : decode cX6_out 29 = .ok (.goto (-21), 3) := by decide +kernel
theorem dX6_out_32 : decode cX6_out 32 = .ok (.iload_n 2, 1) := by decide +kernel
theorem dX6_out_33 : decode cX6_out 33 = .ok (.ireturn, 1) := by decide +kernel
theorem dX6_playerOf_0 : decode cX6_playerOf 0 = .ok (.iload_n 1, 1) := by decide +kernel
theorem dX6_playerOf_1 : decode cX6_playerOf 1 = .ok (.ifCond .lt 8, 3) := by decide +kernel
theorem dX6_playerOf_4 : decode cX6_playerOf 4 = .ok (.iload_n 1, 1) := by decide +kernel
theorem dX6_playerOf_5 : decode cX6_playerOf 5 = .ok (.iconst 4, 1) := by decide +kernel
theorem dX6_playerOf_6 : decode cX6_playerOf 6 = .ok (.if_icmp .lt 13, 3) := by decide +kernel
theorem dX6_playerOf_9 : decode cX6_playerOf 9 = .ok (.new 182, 3) := by decide +kernel
theorem dX6_playerOf_12 : decode cX6_playerOf 12 = .ok (.dup, 1) := by decide +kernel
theorem dX6_playerOf_13 : decode cX6_playerOf 13 = .ok (.ldc 204, 2) := by decide +kernel
theorem dX6_playerOf_15 : decode cX6_playerOf 15 = .ok (.invokespecial 186, 3) := by decide +kernel
theorem dX6_playerOf_18 : decode cX6_playerOf 18 = .ok (.athrow, 1) := by decide +kernel
theorem dX6_playerOf_19 : decode cX6_playerOf 19 = .ok (.aload_n 0, 1) := by decide +kernel
theorem dX6_playerOf_20 : decode cX6_playerOf 20 = .ok (.getfield 11, 3) := by decide +kernel
theorem dX6_playerOf_23 : decode cX6_playerOf 23 = .ok (.iload_n 1, 1) := by decide +kernel
theorem dX6_playerOf_24 : decode cX6_playerOf 24 = .ok (.aaload, 1) := by decide +kernel
theorem dX6_playerOf_25 : decode cX6_playerOf 25 = .ok (.areturn, 1) := by decide +kernel
theorem dX6_requireKind_0 : decode cX6_requireKind 0 = .ok (.iload_n 0, 1) := by decide +kernel
theorem dX6_requireKind_1 : decode cX6_requireKind 1 = .ok (.ifCond .lt 9, 3) := by decide +kernel
theorem dX6_requireKind_4 : decode cX6_requireKind 4 = .ok (.iload_n 0, 1) := by decide +kernel
theorem dX6_requireKind_5 : decode cX6_requireKind 5 = .ok (.bipush 9, 2) := by decide +kernel
theorem dX6_requireKind_7 : decode cX6_requireKind 7 = .ok (.if_icmp .lt 13, 3) := by decide +kernel
theorem dX6_requireKind_10 : decode cX6_requireKind 10 = .ok (.new 182, 3) := by decide +kernel
theorem dX6_requireKind_13 : decode cX6_requireKind 13 = .ok (.dup, 1) := by decide +kernel
theorem dX6_requireKind_14 : decode cX6_requireKind 14 = .ok (.ldc 206, 2) := by decide +kernel
theorem dX6_requireKind_16 : decode cX6_requireKind 16 = .ok (.invokespecial 186, 3) := by decide +kernel
theorem dX6_requireKind_19 : decode cX6_requireKind 19 = .ok (.athrow, 1) := by decide +kernel
theorem dX6_requireKind_20 : decode cX6_requireKind 20 = .ok (.return_, 1) := by decide +kernel
theorem dX6_requireSlot_0 : decode cX6_requireSlot 0 = .ok (.iload_n 0, 1) := by decide +kernel
theorem dX6_requireSlot_1 : decode cX6_requireSlot 1 = .ok (.ifCond .lt 8, 3) := by decide +kernel
theorem dX6_requireSlot_4 : decode cX6_requireSlot 4 = .ok (.iload_n 0, 1) := by decide +kernel
theorem dX6_requireSlot_5 : decode cX6_requireSlot 5 = .ok (.iconst 3, 1) := by decide +kernel
theorem dX6_requireSlot_6 : decode cX6_requireSlot 6 = .ok (.if_icmp .lt 13, 3) := by decide +kernel
theorem dX6_requireSlot_9 : decode cX6_requireSlot 9 = .ok (.new 182, 3) := by decide +kernel
theorem dX6_requireSlot_12 : decode cX6_requireSlot 12 = .ok (.dup, 1) := by decide +kernel
theorem dX6_requireSlot_13 : decode cX6_requireSlot 13 = .ok (.ldc 208, 2) := by decide +kernel
theorem dX6_requireSlot_15 : decode cX6_requireSlot 15 = .ok (.invokespecial 186, 3) := by decide +kernel
theorem dX6_requireSlot_18 : decode cX6_requireSlot 18 = .ok (.athrow, 1) := by decide +kernel
theorem dX6_requireSlot_19 : decode cX6_requireSlot 19 = .ok (.return_, 1) := by decide +kernel
theorem dX6_requireUnit_0 : decode cX6_requireUnit 0 = .ok (.aload_n 0, 1) := by decide +kernel
theorem dX6_requireUnit_1 : decode cX6_requireUnit 1 = .ok (.iload_n 1, 1) := by decide +kernel
theorem dX6_requireUnit_2 : decode cX6_requireUnit 2 = .ok (.invokevirtual 210, 3) := by decide +kernel
theorem dX6_requireUnit_5 : decode cX6_requireUnit 5 = .ok (.ifCond .ne 13, 3) := by decide +kernel
theorem dX6_requireUnit_8 : decode cX6_requireUnit 8 = .ok (.new 182, 3) := by decide +kernel
theorem dX6_requireUnit_11 : decode cX6_requireUnit 11 = .ok (.dup, 1) := by decide +kernel
theorem dX6_requireUnit_12 : decode cX6_requireUnit 12 = .ok (.ldc 213, 2) := by decide +kernel
theorem dX6_requireUnit_14 : decode cX6_requireUnit 14 = .ok (.invokespecial 186, 3) := by decide +kernel
theorem dX6_requireUnit_17 : decode cX6_requireUnit 17 = .ok (.athrow, 1) := by decide +kernel
theorem dX6_requireUnit_18 : decode cX6_requireUnit 18 = .ok (.return_, 1) := by decide +kernel
theorem dX6_musterSides_0 : decode cX6_musterSides 0 = .ok (.aload_n 0, 1) := by decide +kernel
theorem dX6_musterSides_1 : decode cX6_musterSides 1 = .ok (.iload_n 1, 1) := by decide +kernel
theorem dX6_musterSides_2 : decode cX6_musterSides 2 = .ok (.invokevirtual 57, 3) := by decide +kernel
theorem dX6_musterSides_5 : decode cX6_musterSides 5 = .ok (.astore_n 3, 1) := by decide +kernel
theorem dX6_musterSides_6 : decode cX6_musterSides 6 = .ok (.aload_n 0, 1) := by decide +kernel
theorem dX6_musterSides_7 : decode cX6_musterSides 7 = .ok (.iload_n 2, 1) := by decide +kernel
theorem dX6_musterSides_8 : decode cX6_musterSides 8 = .ok (.invokevirtual 57, 3) := by decide +kernel
theorem dX6_musterSides_11 : decode cX6_musterSides 11 = .ok (.astore 4, 2) := by decide +kernel
theorem dX6_musterSides_13 : decode cX6_musterSides 13 = .ok (.iload_n 1, 1) := by decide +kernel
theorem dX6_musterSides_14 : decode cX6_musterSides 14 = .ok (.iload_n 2, 1) := by decide +kernel
theorem dX6_musterSides_15 : decode cX6_musterSides 15 = .ok (.if_icmp .ne 13, 3) := by decide +kernel
theorem dX6_musterSides_18 : decode cX6_musterSides 18 = .ok (.new 37, 3) := by decide +kernel
theorem dX6_musterSides_21 : decode cX6_musterSides 21 = .ok (.dup, 1) := by decide +kernel
theorem dX6_musterSides_22 : decode cX6_musterSides 22 = .ok (.ldc 215, 2) := by decide +kernel
theorem dX6_musterSides_24 : decode cX6_musterSides 24 = .ok (.invokespecial 41, 3) := by decide +kernel
theorem dX6_musterSides_27 : decode cX6_musterSides 27 = .ok (.athrow, 1) := by decide +kernel
theorem dX6_musterSides_28 : decode cX6_musterSides 28 = .ok (.aload_n 0, 1) := by decide +kernel
theorem dX6_musterSides_29 : decode cX6_musterSides 29 = .ok (.getfield 32, 3) := by decide +kernel
theorem dX6_musterSides_32 : decode cX6_musterSides 32 = .ok (.aload_n 3, 1) := by decide +kernel
theorem dX6_musterSides_33 : decode cX6_musterSides 33 = .ok (.getfield 135, 3) := by decide +kernel
theorem dX6_musterSides_36 : decode cX6_musterSides 36 = .ok (.aload 4, 2) := by decide +kernel
theorem dX6_musterSides_38 : decode cX6_musterSides 38 = .ok (.getfield 135, 3) := by decide +kernel
theorem dX6_musterSides_41 : decode cX6_musterSides 41 = .ok (.invokevirtual 217, 3) := by decide +kernel
theorem dX6_musterSides_44 : decode cX6_musterSides 44 = .ok (.return_, 1) := by decide +kernel
theorem dX6_fightPair_0 : decode cX6_fightPair 0 = .ok (.aload_n 0, 1) := by decide +kernel
theorem dX6_fightPair_1 : decode cX6_fightPair 1 = .ok (.iload_n 1, 1) := by decide +kernel
theorem dX6_fightPair_2 : decode cX6_fightPair 2 = .ok (.iload_n 2, 1) := by decide +kernel
theorem dX6_fightPair_3 : decode cX6_fightPair 3 = .ok (.invokevirtual 164, 3) := by decide +kernel
theorem dX6_fightPair_6 : decode cX6_fightPair 6 = .ok (.aload_n 0, 1) := by decide +kernel
theorem dX6_fightPair_7 : decode cX6_fightPair 7 = .ok (.getfield 32, 3) := by decide +kernel
theorem dX6_fightPair_10 : decode cX6_fightPair 10 = .ok (.invokevirtual 167, 3) := by decide +kernel
theorem dX6_fightPair_13 : decode cX6_fightPair 13 = .ok (.aload_n 0, 1) := by decide +kernel
theorem dX6_fightPair_14 : decode cX6_fightPair 14 = .ok (.getfield 32, 3) := by decide +kernel
theorem dX6_fightPair_17 : decode cX6_fightPair 17 = .ok (.invokevirtual 170, 3) := by decide +kernel
theorem dX6_fightPair_20 : decode cX6_fightPair 20 = .ok (.istore_n 3, 1) := by decide +kernel
theorem dX6_fightPair_21 : decode cX6_fightPair 21 = .ok (.iload_n 3, 1) := by decide +kernel
theorem dX6_fightPair_22 : decode cX6_fightPair 22 = .ok (.ifCond .le 27, 3) := by decide +kernel
theorem dX6_fightPair_25 : decode cX6_fightPair 25 = .ok (.aload_n 0, 1) := by decide +kernel
theorem dX6_fightPair_26 : decode cX6_fightPair 26 = .ok (.getfield 11, 3) := by decide +kernel
theorem dX6_fightPair_29 : decode cX6_fightPair 29 = .ok (.iload_n 1, 1) := by decide +kernel
theorem dX6_fightPair_30 : decode cX6_fightPair 30 = .ok (.aaload, 1) := by decide +kernel
theorem dX6_fightPair_31 : decode cX6_fightPair 31 = .ok (.invokevirtual 221, 3) := by decide +kernel
theorem dX6_fightPair_34 : decode cX6_fightPair 34 = .ok (.aload_n 0, 1) := by decide +kernel
theorem dX6_fightPair_35 : decode cX6_fightPair 35 = .ok (.getfield 11, 3) := by decide +kernel
theorem dX6_fightPair_38 : decode cX6_fightPair 38 = .ok (.iload_n 2, 1) := by decide +kernel
theorem dX6_fightPair_39 : decode cX6_fightPair 39 = .ok (.aaload, 1) := by decide +kernel
theorem dX6_fightPair_40 : decode cX6_fightPair 40 = .ok (.iload_n 3, 1) := by decide +kernel
theorem dX6_fightPair_41 : decode cX6_fightPair 41 = .ok (.iconst 1, 1) := by decide +kernel
theorem dX6_fightPair_42 : decode cX6_fightPair 42 = .ok (.iadd, 1) := by decide +kernel
theorem dX6_fightPair_43 : decode cX6_fightPair 43 = .ok (.invokevirtual 224, 3) := by decide +kernel
theorem dX6_fightPair_46 : decode cX6_fightPair 46 = .ok (.goto 51, 3) := by decide +kernel
theorem dX6_fightPair_49 : decode cX6_fightPair 49 = .ok (.iload_n 3, 1) := by decide +kernel
theorem dX6_fightPair_50 : decode cX6_fightPair 50 = .ok (.ifCond .ge 27, 3) := by decide +kernel
theorem dX6_fightPair_53 : decode cX6_fightPair 53 = .ok (.aload_n 0, 1) := by decide +kernel
theorem dX6_fightPair_54 : decode cX6_fightPair 54 = .ok (.getfield 11, 3) := by decide +kernel
theorem dX6_fightPair_57 : decode cX6_fightPair 57 = .ok (.iload_n 2, 1) := by decide +kernel
theorem dX6_fightPair_58 : decode cX6_fightPair 58 = .ok (.aaload, 1) := by decide +kernel
theorem dX6_fightPair_59 : decode cX6_fightPair 59 = .ok (.invokevirtual 221, 3) := by decide +kernel
theorem dX6_fightPair_62 : decode cX6_fightPair 62 = .ok (.aload_n 0, 1) := by decide +kernel
theorem dX6_fightPair_63 : decode cX6_fightPair 63 = .ok (.getfield 11, 3) := by decide +kernel
theorem dX6_fightPair_66 : decode cX6_fightPair 66 = .ok (.iload_n 1, 1) := by decide +kernel
theorem dX6_fightPair_67 : decode cX6_fightPair 67 = .ok (.aaload, 1) := by decide +kernel
theorem dX6_fightPair_68 : decode cX6_fightPair 68 = .ok (.iconst 1, 1) := by decide +kernel
theorem dX6_fightPair_69 : decode cX6_fightPair 69 = .ok (.iload_n 3, 1) := by decide +kernel
theorem dX6_fightPair_70 : decode cX6_fightPair 70 = .ok (.isub, 1) := by decide +kernel
theorem dX6_fightPair_71 : decode cX6_fightPair 71 = .ok (.invokevirtual 224, 3) := by decide +kernel
theorem dX6_fightPair_74 : decode cX6_fightPair 74 = .ok (.goto 23, 3) := by decide +kernel
theorem dX6_fightPair_77 : decode cX6_fightPair 77 = .ok (.aload_n 0, 1) := by decide +kernel
theorem dX6_fightPair_78 : decode cX6_fightPair 78 = .ok (.getfield 11, 3) := by decide +kernel
theorem dX6_fightPair_81 : decode cX6_fightPair 81 = .ok (.iload_n 1, 1) := by decide +kernel
theorem dX6_fightPair_82 : decode cX6_fightPair 82 = .ok (.aaload, 1) := by decide +kernel
theorem dX6_fightPair_83 : decode cX6_fightPair 83 = .ok (.iconst 0, 1) := by decide +kernel
theorem dX6_fightPair_84 : decode cX6_fightPair 84 = .ok (.putfield 179, 3) := by decide +kernel
theorem dX6_fightPair_87 : decode cX6_fightPair 87 = .ok (.aload_n 0, 1) := by decide +kernel
theorem dX6_fightPair_88 : decode cX6_fightPair 88 = .ok (.getfield 11, 3) := by decide +kernel
theorem dX6_fightPair_91 : decode cX6_fightPair 91 = .ok (.iload_n 2, 1) := by decide +kernel
theorem dX6_fightPair_92 : decode cX6_fightPair 92 = .ok (.aaload, 1) := by decide +kernel
theorem dX6_fightPair_93 : decode cX6_fightPair 93 = .ok (.iconst 0, 1) := by decide +kernel
theorem dX6_fightPair_94 : decode cX6_fightPair 94 = .ok (.putfield 179, 3) := by decide +kernel
theorem dX6_fightPair_97 : decode cX6_fightPair 97 = .ok (.return_, 1) := by decide +kernel
theorem dX6_fillUnlockedShops_0 : decode cX6_fillUnlockedShops 0 = .ok (.iconst 0, 1) := by decide +kernel
theorem dX6_fillUnlockedShops_1 : decode cX6_fillUnlockedShops 1 = .ok (.istore_n 1, 1) := by decide +kernel
theorem dX6_fillUnlockedShops_2 : decode cX6_fillUnlockedShops 2 = .ok (.iload_n 1, 1) := by decide +kernel
theorem dX6_fillUnlockedShops_3 : decode cX6_fillUnlockedShops 3 = .ok (.iconst 4, 1) := by decide +kernel
theorem dX6_fillUnlockedShops_4 : decode cX6_fillUnlockedShops 4 = .ok (.if_icmp .ge 33, 3) := by decide +kernel
theorem dX6_fillUnlockedShops_7 : decode cX6_fillUnlockedShops 7 = .ok (.aload_n 0, 1) := by decide +kernel
theorem dX6_fillUnlockedShops_8 : decode cX6_fillUnlockedShops 8 = .ok (.getfield 11, 3) := by decide +kernel
theorem dX6_fillUnlockedShops_11 : decode cX6_fillUnlockedShops 11 = .ok (.iload_n 1, 1) := by decide +kernel
theorem dX6_fillUnlockedShops_12 : decode cX6_fillUnlockedShops 12 = .ok (.aaload, 1) := by decide +kernel
theorem dX6_fillUnlockedShops_13 : decode cX6_fillUnlockedShops 13 = .ok (.astore_n 2, 1) := by decide +kernel
theorem dX6_fillUnlockedShops_14 : decode cX6_fillUnlockedShops 14 = .ok (.aload_n 2, 1) := by decide +kernel
theorem dX6_fillUnlockedShops_15 : decode cX6_fillUnlockedShops 15 = .ok (.getfield 70, 3) := by decide +kernel
theorem dX6_fillUnlockedShops_18 : decode cX6_fillUnlockedShops 18 = .ok (.ifCond .ne 8, 3) := by decide +kernel
theorem dX6_fillUnlockedShops_21 : decode cX6_fillUnlockedShops 21 = .ok (.aload_n 0, 1) := by decide +kernel
theorem dX6_fillUnlockedShops_22 : decode cX6_fillUnlockedShops 22 = .ok (.aload_n 2, 1) := by decide +kernel
theorem dX6_fillUnlockedShops_23 : decode cX6_fillUnlockedShops 23 = .ok (.invokevirtual 66, 3) := by decide +kernel
theorem dX6_fillUnlockedShops_26 : decode cX6_fillUnlockedShops 26 = .ok (.aload_n 2, 1) := by decide +kernel
theorem dX6_fillUnlockedShops_27 : decode cX6_fillUnlockedShops 27 = .ok (.iconst 0, 1) := by decide +kernel
theorem dX6_fillUnlockedShops_28 : decode cX6_fillUnlockedShops 28 = .ok (.putfield 70, 3) := by decide +kernel
theorem dX6_fillUnlockedShops_31 : decode cX6_fillUnlockedShops 31 = .ok (.iinc 1 1, 3) := by decide +kernel
theorem dX6_fillUnlockedShops_34 : decode cX6_fillUnlockedShops 34 = .ok (.goto (-32), 3) := by decide +kernel
theorem dX6_fillUnlockedShops_37 : decode cX6_fillUnlockedShops 37 = .ok (.return_, 1) := by decide +kernel
theorem dX6_fillShop_0 : decode cX6_fillShop 0 = .ok (.iconst 0, 1) := by decide +kernel
theorem dX6_fillShop_1 : decode cX6_fillShop 1 = .ok (.istore_n 2, 1) := by decide +kernel
theorem dX6_fillShop_2 : decode cX6_fillShop 2 = .ok (.iload_n 2, 1) := by decide +kernel
theorem dX6_fillShop_3 : decode cX6_fillShop 3 = .ok (.iconst 3, 1) := by decide +kernel
theorem dX6_fillShop_4 : decode cX6_fillShop 4 = .ok (.if_icmp .ge 23, 3) := by decide +kernel
theorem dX6_fillShop_7 : decode cX6_fillShop 7 = .ok (.aload_n 0, 1) := by decide +kernel
theorem dX6_fillShop_8 : decode cX6_fillShop 8 = .ok (.getfield 18, 3) := by decide +kernel
theorem dX6_fillShop_11 : decode cX6_fillShop 11 = .ok (.aload_n 1, 1) := by decide +kernel
theorem dX6_fillShop_12 : decode cX6_fillShop 12 = .ok (.getfield 85, 3) := by decide +kernel
theorem dX6_fillShop_15 : decode cX6_fillShop 15 = .ok (.iload_n 2, 1) := by decide +kernel
theorem dX6_fillShop_16 : decode cX6_fillShop 16 = .ok (.iaload, 1) := by decide +kernel
theorem dX6_fillShop_17 : decode cX6_fillShop 17 = .ok (.iconst 1, 1) := by decide +kernel
theorem dX6_fillShop_18 : decode cX6_fillShop 18 = .ok (.invokevirtual 128, 3) := by decide +kernel
theorem dX6_fillShop_21 : decode cX6_fillShop 21 = .ok (.iinc 2 1, 3) := by decide +kernel
theorem dX6_fillShop_24 : decode cX6_fillShop 24 = .ok (.goto (-22), 3) := by decide +kernel
theorem dX6_fillShop_27 : decode cX6_fillShop 27 = .ok (.iconst 0, 1) := by decide +kernel
theorem dX6_fillShop_28 : decode cX6_fillShop 28 = .ok (.istore_n 2, 1) := by decide +kernel
theorem dX6_fillShop_29 : decode cX6_fillShop 29 = .ok (.iload_n 2, 1) := by decide +kernel
theorem dX6_fillShop_30 : decode cX6_fillShop 30 = .ok (.iconst 3, 1) := by decide +kernel
theorem dX6_fillShop_31 : decode cX6_fillShop 31 = .ok (.if_icmp .ge 35, 3) := by decide +kernel
theorem dX6_fillShop_34 : decode cX6_fillShop 34 = .ok (.aload_n 1, 1) := by decide +kernel
theorem dX6_fillShop_35 : decode cX6_fillShop 35 = .ok (.getfield 85, 3) := by decide +kernel
theorem dX6_fillShop_38 : decode cX6_fillShop 38 = .ok (.iload_n 2, 1) := by decide +kernel
theorem dX6_fillShop_39 : decode cX6_fillShop 39 = .ok (.aload_n 0, 1) := by decide +kernel
theorem dX6_fillShop_40 : decode cX6_fillShop 40 = .ok (.getfield 18, 3) := by decide +kernel
theorem dX6_fillShop_43 : decode cX6_fillShop 43 = .ok (.aload_n 0, 1) := by decide +kernel
theorem dX6_fillShop_44 : decode cX6_fillShop 44 = .ok (.getfield 25, 3) := by decide +kernel
theorem dX6_fillShop_47 : decode cX6_fillShop 47 = .ok (.invokevirtual 227, 3) := by decide +kernel
theorem dX6_fillShop_50 : decode cX6_fillShop 50 = .ok (.aload_n 1, 1) := by decide +kernel
theorem dX6_fillShop_51 : decode cX6_fillShop 51 = .ok (.getfield 76, 3) := by decide +kernel
theorem dX6_fillShop_54 : decode cX6_fillShop 54 = .ok (.iconst 1, 1) := by decide +kernel
theorem dX6_fillShop_55 : decode cX6_fillShop 55 = .ok (.iadd, 1) := by decide +kernel
theorem dX6_fillShop_56 : decode cX6_fillShop 56 = .ok (.invokevirtual 230, 3) := by decide +kernel
theorem dX6_fillShop_59 : decode cX6_fillShop 59 = .ok (.iastore, 1) := by decide +kernel
theorem dX6_fillShop_60 : decode cX6_fillShop 60 = .ok (.iinc 2 1, 3) := by decide +kernel
theorem dX6_fillShop_63 : decode cX6_fillShop 63 = .ok (.goto (-34), 3) := by decide +kernel
theorem dX6_fillShop_66 : decode cX6_fillShop 66 = .ok (.return_, 1) := by decide +kernel
theorem dX6_playersWithHealth_0 : decode cX6_playersWithHealth 0 = .ok (.iconst 0, 1) := by decide +kernel
theorem dX6_playersWithHealth_1 : decode cX6_playersWithHealth 1 = .ok (.istore_n 1, 1) := by decide +kernel
theorem dX6_playersWithHealth_2 : decode cX6_playersWithHealth 2 = .ok (.iconst 0, 1) := by decide +kernel
theorem dX6_playersWithHealth_3 : decode cX6_playersWithHealth 3 = .ok (.istore_n 2, 1) := by decide +kernel
theorem dX6_playersWithHealth_4 : decode cX6_playersWithHealth 4 = .ok (.iload_n 2, 1) := by decide +kernel
theorem dX6_playersWithHealth_5 : decode cX6_playersWithHealth 5 = .ok (.iconst 4, 1) := by decide +kernel
theorem dX6_playersWithHealth_6 : decode cX6_playersWithHealth 6 = .ok (.if_icmp .ge 24, 3) := by decide +kernel
theorem dX6_playersWithHealth_9 : decode cX6_playersWithHealth 9 = .ok (.aload_n 0, 1) := by decide +kernel
theorem dX6_playersWithHealth_10 : decode cX6_playersWithHealth 10 = .ok (.getfield 11, 3) := by decide +kernel
theorem dX6_playersWithHealth_13 : decode cX6_playersWithHealth 13 = .ok (.iload_n 2, 1) := by decide +kernel
theorem dX6_playersWithHealth_14 : decode cX6_playersWithHealth 14 = .ok (.aaload, 1) := by decide +kernel
theorem dX6_playersWithHealth_15 : decode cX6_playersWithHealth 15 = .ok (.getfield 176, 3) := by decide +kernel
theorem dX6_playersWithHealth_18 : decode cX6_playersWithHealth 18 = .ok (.ifCond .le 6, 3) := by decide +kernel
theorem dX6_playersWithHealth_21 : decode cX6_playersWithHealth 21 = .ok (.iinc 1 1, 3) := by decide +kernel
theorem dX6_playersWithHealth_24 : decode cX6_playersWithHealth 24 = .ok (.iinc 2 1, 3) := by decide +kernel
theorem dX6_playersWithHealth_27 : decode cX6_playersWithHealth 27 = .ok (.goto (-23), 3) := by decide +kernel
theorem dX6_playersWithHealth_30 : decode cX6_playersWithHealth 30 = .ok (.iload_n 1, 1) := by decide +kernel
theorem dX6_playersWithHealth_31 : decode cX6_playersWithHealth 31 = .ok (.ireturn, 1) := by decide +kernel
theorem dX6_costOf_0 : decode cX6_costOf 0 = .ok (.iload_n 0, 1) := by decide +kernel
theorem dX6_costOf_1 : decode cX6_costOf 1 = .ok (.iconst 3, 1) := by decide +kernel
theorem dX6_costOf_2 : decode cX6_costOf 2 = .ok (.idiv, 1) := by decide +kernel
theorem dX6_costOf_3 : decode cX6_costOf 3 = .ok (.iconst 1, 1) := by decide +kernel
theorem dX6_costOf_4 : decode cX6_costOf 4 = .ok (.iadd, 1) := by decide +kernel
theorem dX6_costOf_5 : decode cX6_costOf 5 = .ok (.ireturn, 1) := by decide +kernel
theorem dX6_unitsFor_0 : decode cX6_unitsFor 0 = .ok (.iload_n 0, 1) := by decide +kernel
theorem dX6_unitsFor_1 : decode cX6_unitsFor 1 = .ok (.iconst 1, 1) := by decide +kernel
theorem dX6_unitsFor_2 : decode cX6_unitsFor 2 = .ok (.if_icmp .ne 5, 3) := by decide +kernel
theorem dX6_unitsFor_5 : decode cX6_unitsFor 5 = .ok (.iconst 1, 1) := by decide +kernel
theorem dX6_unitsFor_6 : decode cX6_unitsFor 6 = .ok (.ireturn, 1) := by decide +kernel
theorem dX6_unitsFor_7 : decode cX6_unitsFor 7 = .ok (.iload_n 0, 1) := by decide +kernel
theorem dX6_unitsFor_8 : decode cX6_unitsFor 8 = .ok (.iconst 2, 1) := by decide +kernel
theorem dX6_unitsFor_9 : decode cX6_unitsFor 9 = .ok (.if_icmp .ne 7, 3) := by decide +kernel
theorem dX6_unitsFor_12 : decode cX6_unitsFor 12 = .ok (.iconst 3, 1) := by decide +kernel
theorem dX6_unitsFor_13 : decode cX6_unitsFor 13 = .ok (.goto 5, 3) := by decide +kernel
theorem dX6_unitsFor_16 : decode cX6_unitsFor 16 = .ok (.bipush 9, 2) := by decide +kernel
theorem dX6_unitsFor_18 : decode cX6_unitsFor 18 = .ok (.ireturn, 1) := by decide +kernel
theorem dJ9_min_7cf53_0 : decode cJ9_min_7cf53 0 = .ok (.iload_n 0, 1) := by decide +kernel
theorem dJ9_min_7cf53_1 : decode cJ9_min_7cf53 1 = .ok (.iload_n 1, 1) := by decide +kernel
theorem dJ9_min_7cf53_2 : decode cJ9_min_7cf53 2 = .ok (.if_icmp .gt 7, 3) := by decide +kernel
theorem dJ9_min_7cf53_5 : decode cJ9_min_7cf53 5 = .ok (.iload_n 0, 1) := by decide +kernel
theorem dJ9_min_7cf53_6 : decode cJ9_min_7cf53 6 = .ok (.goto 4, 3) := by decide +kernel
theorem dJ9_min_7cf53_9 : decode cJ9_min_7cf53 9 = .ok (.iload_n 1, 1) := by decide +kernel
theorem dJ9_min_7cf53_10 : decode cJ9_min_7cf53 10 = .ok (.ireturn, 1) := by decide +kernel
theorem dL_cell_0 : decode cL_cell 0 = .ok (.iload_n 1, 1) := by decide +kernel
theorem dL_cell_1 : decode cL_cell 1 = .ok (.aload_n 0, 1) := by decide +kernel
theorem dL_cell_2 : decode cL_cell 2 = .ok (.arraylength, 1) := by decide +kernel
theorem dL_cell_3 : decode cL_cell 3 = .ok (.if_icmp .ge 9, 3) := by decide +kernel
theorem dL_cell_6 : decode cL_cell 6 = .ok (.aload_n 0, 1) := by decide +kernel
theorem dL_cell_7 : decode cL_cell 7 = .ok (.iload_n 1, 1) := by decide +kernel
theorem dL_cell_8 : decode cL_cell 8 = .ok (.iaload, 1) := by decide +kernel
theorem dL_cell_9 : decode cL_cell 9 = .ok (.goto 18, 3) := by decide +kernel
theorem dL_cell_12 : decode cL_cell 12 = .ok (.sipush 7919, 3) := by decide +kernel
theorem dL_cell_15 : decode cL_cell 15 = .ok (.iload_n 1, 1) := by decide +kernel
theorem dL_cell_16 : decode cL_cell 16 = .ok (.sipush 911, 3) := by decide +kernel
theorem dL_cell_19 : decode cL_cell 19 = .ok (.iadd, 1) := by decide +kernel
theorem dL_cell_20 : decode cL_cell 20 = .ok (.imul, 1) := by decide +kernel
theorem dL_cell_21 : decode cL_cell 21 = .ok (.iload_n 1, 1) := by decide +kernel
theorem dL_cell_22 : decode cL_cell 22 = .ok (.sipush 3329, 3) := by decide +kernel
theorem dL_cell_25 : decode cL_cell 25 = .ok (.iadd, 1) := by decide +kernel
theorem dL_cell_26 : decode cL_cell 26 = .ok (.imul, 1) := by decide +kernel
theorem dL_cell_27 : decode cL_cell 27 = .ok (.ireturn, 1) := by decide +kernel
theorem dL_low_0 : decode cL_low 0 = .ok (.iload_n 0, 1) := by decide +kernel
theorem dL_low_1 : decode cL_low 1 = .ok (.ldc 7, 2) := by decide +kernel
theorem dL_low_3 : decode cL_low 3 = .ok (.iand, 1) := by decide +kernel
theorem dL_low_4 : decode cL_low 4 = .ok (.iload_n 1, 1) := by decide +kernel
theorem dL_low_5 : decode cL_low 5 = .ok (.irem, 1) := by decide +kernel
theorem dL_low_6 : decode cL_low 6 = .ok (.ireturn, 1) := by decide +kernel
theorem dL_does_0 : decode cL_does 0 = .ok (.iload_n 1, 1) := by decide +kernel
theorem dL_does_1 : decode cL_does 1 = .ok (.ifCond .ne 11, 3) := by decide +kernel
theorem dL_does_4 : decode cL_does 4 = .ok (.aload_n 0, 1) := by decide +kernel
theorem dL_does_5 : decode cL_does 5 = .ok (.iload_n 2, 1) := by decide +kernel
theorem dL_does_6 : decode cL_does 6 = .ok (.invokevirtual 8, 3) := by decide +kernel
theorem dL_does_9 : decode cL_does 9 = .ok (.goto 112, 3) := by decide +kernel
theorem dL_does_12 : decode cL_does 12 = .ok (.iload_n 1, 1) := by decide +kernel
theorem dL_does_13 : decode cL_does 13 = .ok (.iconst 1, 1) := by decide +kernel
theorem dL_does_14 : decode cL_does 14 = .ok (.if_icmp .ne 11, 3) := by decide +kernel
theorem dL_does_17 : decode cL_does 17 = .ok (.aload_n 0, 1) := by decide +kernel
theorem dL_does_18 : decode cL_does 18 = .ok (.iload_n 2, 1) := by decide +kernel
theorem dL_does_19 : decode cL_does 19 = .ok (.invokevirtual 14, 3) := by decide +kernel
theorem dL_does_22 : decode cL_does 22 = .ok (.goto 99, 3) := by decide +kernel
theorem dL_does_25 : decode cL_does 25 = .ok (.iload_n 1, 1) := by decide +kernel
theorem dL_does_26 : decode cL_does 26 = .ok (.iconst 2, 1) := by decide +kernel
theorem dL_does_27 : decode cL_does 27 = .ok (.if_icmp .ne 19, 3) := by decide +kernel
theorem dL_does_30 : decode cL_does 30 = .ok (.aload_n 0, 1) := by decide +kernel
theorem dL_does_31 : decode cL_does 31 = .ok (.iload_n 2, 1) := by decide +kernel
theorem dL_does_32 : decode cL_does 32 = .ok (.invokevirtual 17, 3) := by decide +kernel
theorem dL_does_35 : decode cL_does 35 = .ok (.ifCond .eq 7, 3) := by decide +kernel
theorem dL_does_38 : decode cL_does 38 = .ok (.iconst 1, 1) := by decide +kernel
theorem dL_does_39 : decode cL_does 39 = .ok (.goto 82, 3) := by decide +kernel
theorem dL_does_42 : decode cL_does 42 = .ok (.iconst 0, 1) := by decide +kernel
theorem dL_does_43 : decode cL_does 43 = .ok (.goto 78, 3) := by decide +kernel
theorem dL_does_46 : decode cL_does 46 = .ok (.iload_n 1, 1) := by decide +kernel
theorem dL_does_47 : decode cL_does 47 = .ok (.iconst 3, 1) := by decide +kernel
theorem dL_does_48 : decode cL_does 48 = .ok (.if_icmp .ne 11, 3) := by decide +kernel
theorem dL_does_51 : decode cL_does 51 = .ok (.aload_n 0, 1) := by decide +kernel
theorem dL_does_52 : decode cL_does 52 = .ok (.iload_n 2, 1) := by decide +kernel
theorem dL_does_53 : decode cL_does 53 = .ok (.invokevirtual 21, 3) := by decide +kernel
theorem dL_does_56 : decode cL_does 56 = .ok (.goto 65, 3) := by decide +kernel
theorem dL_does_59 : decode cL_does 59 = .ok (.iload_n 1, 1) := by decide +kernel
theorem dL_does_60 : decode cL_does 60 = .ok (.iconst 4, 1) := by decide +kernel
theorem dL_does_61 : decode cL_does 61 = .ok (.if_icmp .ne 12, 3) := by decide +kernel
theorem dL_does_64 : decode cL_does 64 = .ok (.aload_n 0, 1) := by decide +kernel
theorem dL_does_65 : decode cL_does 65 = .ok (.iload_n 2, 1) := by decide +kernel
theorem dL_does_66 : decode cL_does 66 = .ok (.iload_n 3, 1) := by decide +kernel
theorem dL_does_67 : decode cL_does 67 = .ok (.invokevirtual 24, 3) := by decide +kernel
theorem dL_does_70 : decode cL_does 70 = .ok (.goto 51, 3) := by decide +kernel
theorem dL_does_73 : decode cL_does 73 = .ok (.iload_n 1, 1) := by decide +kernel
theorem dL_does_74 : decode cL_does 74 = .ok (.iconst 5, 1) := by decide +kernel
theorem dL_does_75 : decode cL_does 75 = .ok (.if_icmp .ne 12, 3) := by decide +kernel
theorem dL_does_78 : decode cL_does 78 = .ok (.aload_n 0, 1) := by decide +kernel
theorem dL_does_79 : decode cL_does 79 = .ok (.iload_n 2, 1) := by decide +kernel
theorem dL_does_80 : decode cL_does 80 = .ok (.iload_n 3, 1) := by decide +kernel
theorem dL_does_81 : decode cL_does 81 = .ok (.invokevirtual 28, 3) := by decide +kernel
theorem dL_does_84 : decode cL_does 84 = .ok (.goto 37, 3) := by decide +kernel
theorem dL_does_87 : decode cL_does 87 = .ok (.iload_n 1, 1) := by decide +kernel
theorem dL_does_88 : decode cL_does 88 = .ok (.bipush 6, 2) := by decide +kernel
theorem dL_does_90 : decode cL_does 90 = .ok (.if_icmp .ne 12, 3) := by decide +kernel
theorem dL_does_93 : decode cL_does 93 = .ok (.aload_n 0, 1) := by decide +kernel
theorem dL_does_94 : decode cL_does 94 = .ok (.iload_n 2, 1) := by decide +kernel
theorem dL_does_95 : decode cL_does 95 = .ok (.iload_n 3, 1) := by decide +kernel
theorem dL_does_96 : decode cL_does 96 = .ok (.invokevirtual 31, 3) := by decide +kernel
theorem dL_does_99 : decode cL_does 99 = .ok (.goto 22, 3) := by decide +kernel
theorem dL_does_102 : decode cL_does 102 = .ok (.iload_n 1, 1) := by decide +kernel
theorem dL_does_103 : decode cL_does 103 = .ok (.bipush 7, 2) := by decide +kernel
theorem dL_does_105 : decode cL_does 105 = .ok (.if_icmp .ne 12, 3) := by decide +kernel
theorem dL_does_108 : decode cL_does 108 = .ok (.aload_n 0, 1) := by decide +kernel
theorem dL_does_109 : decode cL_does 109 = .ok (.iload_n 2, 1) := by decide +kernel
theorem dL_does_110 : decode cL_does 110 = .ok (.iload_n 3, 1) := by decide +kernel
theorem dL_does_111 : decode cL_does 111 = .ok (.invokevirtual 34, 3) := by decide +kernel
theorem dL_does_114 : decode cL_does 114 = .ok (.goto 7, 3) := by decide +kernel
theorem dL_does_117 : decode cL_does 117 = .ok (.aload_n 0, 1) := by decide +kernel
theorem dL_does_118 : decode cL_does 118 = .ok (.invokevirtual 37, 3) := by decide +kernel
theorem dL_does_121 : decode cL_does 121 = .ok (.ireturn, 1) := by decide +kernel
theorem dL_does_122 : decode cL_does 122 = .ok (.astore 4, 2) := by decide +kernel
theorem dL_does_124 : decode cL_does 124 = .ok (.ldc 43, 2) := by decide +kernel
theorem dL_does_126 : decode cL_does 126 = .ok (.ireturn, 1) := by decide +kernel
theorem dL_does_127 : decode cL_does 127 = .ok (.astore 4, 2) := by decide +kernel
theorem dL_does_129 : decode cL_does 129 = .ok (.ldc 43, 2) := by decide +kernel
theorem dL_does_131 : decode cL_does 131 = .ok (.ireturn, 1) := by decide +kernel
theorem dL_does_132 : decode cL_does 132 = .ok (.astore 4, 2) := by decide +kernel
theorem dL_does_134 : decode cL_does 134 = .ok (.ldc 43, 2) := by decide +kernel
theorem dL_does_136 : decode cL_does 136 = .ok (.ireturn, 1) := by decide +kernel
theorem dL_does_137 : decode cL_does 137 = .ok (.astore 4, 2) := by decide +kernel
theorem dL_does_139 : decode cL_does 139 = .ok (.ldc 43, 2) := by decide +kernel
theorem dL_does_141 : decode cL_does 141 = .ok (.ireturn, 1) := by decide +kernel
theorem dL_units_0 : decode cL_units 0 = .ok (.iconst 0, 1) := by decide +kernel
theorem dL_units_1 : decode cL_units 1 = .ok (.istore_n 2, 1) := by decide +kernel
theorem dL_units_2 : decode cL_units 2 = .ok (.iconst 0, 1) := by decide +kernel
theorem dL_units_3 : decode cL_units 3 = .ok (.istore_n 3, 1) := by decide +kernel
theorem dL_units_4 : decode cL_units 4 = .ok (.iload_n 3, 1) := by decide +kernel
theorem dL_units_5 : decode cL_units 5 = .ok (.bipush 6, 2) := by decide +kernel
theorem dL_units_7 : decode cL_units 7 = .ok (.if_icmp .ge 48, 3) := by decide +kernel
theorem dL_units_10 : decode cL_units 10 = .ok (.iload_n 2, 1) := by decide +kernel
theorem dL_units_11 : decode cL_units 11 = .ok (.aload_n 0, 1) := by decide +kernel
theorem dL_units_12 : decode cL_units 12 = .ok (.iload_n 1, 1) := by decide +kernel
theorem dL_units_13 : decode cL_units 13 = .ok (.iload_n 3, 1) := by decide +kernel
theorem dL_units_14 : decode cL_units 14 = .ok (.invokevirtual 50, 3) := by decide +kernel
theorem dL_units_17 : decode cL_units 17 = .ok (.ifCond .lt 7, 3) := by decide +kernel
theorem dL_units_20 : decode cL_units 20 = .ok (.iconst 1, 1) := by decide +kernel
theorem dL_units_21 : decode cL_units 21 = .ok (.goto 4, 3) := by decide +kernel
theorem dL_units_24 : decode cL_units 24 = .ok (.iconst 0, 1) := by decide +kernel
theorem dL_units_25 : decode cL_units 25 = .ok (.iadd, 1) := by decide +kernel
theorem dL_units_26 : decode cL_units 26 = .ok (.istore_n 2, 1) := by decide +kernel
theorem dL_units_27 : decode cL_units 27 = .ok (.iload_n 2, 1) := by decide +kernel
theorem dL_units_28 : decode cL_units 28 = .ok (.iload_n 3, 1) := by decide +kernel
theorem dL_units_29 : decode cL_units 29 = .ok (.iconst 5, 1) := by decide +kernel
theorem dL_units_30 : decode cL_units 30 = .ok (.if_icmp .ge 16, 3) := by decide +kernel
theorem dL_units_33 : decode cL_units 33 = .ok (.aload_n 0, 1) := by decide +kernel
theorem dL_units_34 : decode cL_units 34 = .ok (.iload_n 1, 1) := by decide +kernel
theorem dL_units_35 : decode cL_units 35 = .ok (.iload_n 3, 1) := by decide +kernel
theorem dL_units_36 : decode cL_units 36 = .ok (.invokevirtual 53, 3) := by decide +kernel
theorem dL_units_39 : decode cL_units 39 = .ok (.ifCond .lt 7, 3) := by decide +kernel
theorem dL_units_42 : decode cL_units 42 = .ok (.iconst 1, 1) := by decide +kernel
theorem dL_units_43 : decode cL_units 43 = .ok (.goto 4, 3) := by decide +kernel
theorem dL_units_46 : decode cL_units 46 = .ok (.iconst 0, 1) := by decide +kernel
theorem dL_units_47 : decode cL_units 47 = .ok (.iadd, 1) := by decide +kernel
theorem dL_units_48 : decode cL_units 48 = .ok (.istore_n 2, 1) := by decide +kernel
theorem dL_units_49 : decode cL_units 49 = .ok (.iinc 3 1, 3) := by decide +kernel
theorem dL_units_52 : decode cL_units 52 = .ok (.goto (-48), 3) := by decide +kernel
theorem dL_units_55 : decode cL_units 55 = .ok (.iload_n 2, 1) := by decide +kernel
theorem dL_units_56 : decode cL_units 56 = .ok (.ireturn, 1) := by decide +kernel
theorem dL_bench_0 : decode cL_bench 0 = .ok (.iconst 0, 1) := by decide +kernel
theorem dL_bench_1 : decode cL_bench 1 = .ok (.istore_n 2, 1) := by decide +kernel
theorem dL_bench_2 : decode cL_bench 2 = .ok (.iload_n 2, 1) := by decide +kernel
theorem dL_bench_3 : decode cL_bench 3 = .ok (.bipush 6, 2) := by decide +kernel
theorem dL_bench_5 : decode cL_bench 5 = .ok (.if_icmp .ge 18, 3) := by decide +kernel
theorem dL_bench_8 : decode cL_bench 8 = .ok (.aload_n 0, 1) := by decide +kernel
theorem dL_bench_9 : decode cL_bench 9 = .ok (.iload_n 1, 1) := by decide +kernel
theorem dL_bench_10 : decode cL_bench 10 = .ok (.iload_n 2, 1) := by decide +kernel
theorem dL_bench_11 : decode cL_bench 11 = .ok (.invokevirtual 50, 3) := by decide +kernel
theorem dL_bench_14 : decode cL_bench 14 = .ok (.ifCond .lt 9, 3) := by decide +kernel
theorem dL_bench_17 : decode cL_bench 17 = .ok (.iinc 2 1, 3) := by decide +kernel
theorem dL_bench_20 : decode cL_bench 20 = .ok (.goto (-18), 3) := by decide +kernel
theorem dL_bench_23 : decode cL_bench 23 = .ok (.iload_n 2, 1) := by decide +kernel
theorem dL_bench_24 : decode cL_bench 24 = .ok (.ireturn, 1) := by decide +kernel
theorem dL_board_0 : decode cL_board 0 = .ok (.iconst 0, 1) := by decide +kernel
theorem dL_board_1 : decode cL_board 1 = .ok (.istore_n 2, 1) := by decide +kernel
theorem dL_board_2 : decode cL_board 2 = .ok (.iload_n 2, 1) := by decide +kernel
theorem dL_board_3 : decode cL_board 3 = .ok (.iconst 5, 1) := by decide +kernel
theorem dL_board_4 : decode cL_board 4 = .ok (.if_icmp .ge 18, 3) := by decide +kernel
theorem dL_board_7 : decode cL_board 7 = .ok (.aload_n 0, 1) := by decide +kernel
theorem dL_board_8 : decode cL_board 8 = .ok (.iload_n 1, 1) := by decide +kernel
theorem dL_board_9 : decode cL_board 9 = .ok (.iload_n 2, 1) := by decide +kernel
theorem dL_board_10 : decode cL_board 10 = .ok (.invokevirtual 53, 3) := by decide +kernel
theorem dL_board_13 : decode cL_board 13 = .ok (.ifCond .lt 9, 3) := by decide +kernel
theorem dL_board_16 : decode cL_board 16 = .ok (.iinc 2 1, 3) := by decide +kernel
theorem dL_board_19 : decode cL_board 19 = .ok (.goto (-17), 3) := by decide +kernel
theorem dL_board_22 : decode cL_board 22 = .ok (.iload_n 2, 1) := by decide +kernel
theorem dL_board_23 : decode cL_board 23 = .ok (.ireturn, 1) := by decide +kernel
theorem dL_act_0 : decode cL_act 0 = .ok (.iload_n 1, 1) := by decide +kernel
theorem dL_act_1 : decode cL_act 1 = .ok (.bipush 18, 2) := by decide +kernel
theorem dL_act_3 : decode cL_act 3 = .ok (.ishr, 1) := by decide +kernel
theorem dL_act_4 : decode cL_act 4 = .ok (.bipush 7, 2) := by decide +kernel
theorem dL_act_6 : decode cL_act 6 = .ok (.iand, 1) := by decide +kernel
theorem dL_act_7 : decode cL_act 7 = .ok (.bipush 7, 2) := by decide +kernel
theorem dL_act_9 : decode cL_act 9 = .ok (.if_icmp .ne 7, 3) := by decide +kernel
theorem dL_act_12 : decode cL_act 12 = .ok (.iconst 1, 1) := by decide +kernel
theorem dL_act_13 : decode cL_act 13 = .ok (.goto 4, 3) := by decide +kernel
theorem dL_act_16 : decode cL_act 16 = .ok (.iconst 0, 1) := by decide +kernel
theorem dL_act_17 : decode cL_act 17 = .ok (.istore_n 2, 1) := by decide +kernel
theorem dL_act_18 : decode cL_act 18 = .ok (.iload_n 1, 1) := by decide +kernel
theorem dL_act_19 : decode cL_act 19 = .ok (.bipush 40, 2) := by decide +kernel
theorem dL_act_21 : decode cL_act 21 = .ok (.invokestatic 56, 3) := by decide +kernel
theorem dL_act_24 : decode cL_act 24 = .ok (.istore_n 3, 1) := by decide +kernel
theorem dL_act_25 : decode cL_act 25 = .ok (.iload_n 2, 1) := by decide +kernel
theorem dL_act_26 : decode cL_act 26 = .ok (.ifCond .eq 17, 3) := by decide +kernel
theorem dL_act_29 : decode cL_act 29 = .ok (.iload_n 1, 1) := by decide +kernel
theorem dL_act_30 : decode cL_act 30 = .ok (.bipush 6, 2) := by decide +kernel
theorem dL_act_32 : decode cL_act 32 = .ok (.ishr, 1) := by decide +kernel
theorem dL_act_33 : decode cL_act 33 = .ok (.bipush 7, 2) := by decide +kernel
theorem dL_act_35 : decode cL_act 35 = .ok (.invokestatic 56, 3) := by decide +kernel
theorem dL_act_38 : decode cL_act 38 = .ok (.iconst 1, 1) := by decide +kernel
theorem dL_act_39 : decode cL_act 39 = .ok (.isub, 1) := by decide +kernel
theorem dL_act_40 : decode cL_act 40 = .ok (.goto 9, 3) := by decide +kernel
theorem dL_act_43 : decode cL_act 43 = .ok (.iload_n 1, 1) := by decide +kernel
theorem dL_act_44 : decode cL_act 44 = .ok (.bipush 6, 2) := by decide +kernel
theorem dL_act_46 : decode cL_act 46 = .ok (.ishr, 1) := by decide +kernel
theorem dL_act_47 : decode cL_act 47 = .ok (.iconst 3, 1) := by decide +kernel
theorem dL_act_48 : decode cL_act 48 = .ok (.iand, 1) := by decide +kernel
theorem dL_act_49 : decode cL_act 49 = .ok (.istore 4, 2) := by decide +kernel
theorem dL_act_51 : decode cL_act 51 = .ok (.iload_n 2, 1) := by decide +kernel
theorem dL_act_52 : decode cL_act 52 = .ok (.ifCond .eq 17, 3) := by decide +kernel
theorem dL_act_55 : decode cL_act 55 = .ok (.iload_n 1, 1) := by decide +kernel
theorem dL_act_56 : decode cL_act 56 = .ok (.bipush 9, 2) := by decide +kernel
theorem dL_act_58 : decode cL_act 58 = .ok (.ishr, 1) := by decide +kernel
theorem dL_act_59 : decode cL_act 59 = .ok (.bipush 11, 2) := by decide +kernel
theorem dL_act_61 : decode cL_act 61 = .ok (.invokestatic 56, 3) := by decide +kernel
theorem dL_act_64 : decode cL_act 64 = .ok (.iconst 2, 1) := by decide +kernel
theorem dL_act_65 : decode cL_act 65 = .ok (.isub, 1) := by decide +kernel
theorem dL_act_66 : decode cL_act 66 = .ok (.goto 11, 3) := by decide +kernel
theorem dL_act_69 : decode cL_act 69 = .ok (.iload_n 1, 1) := by decide +kernel
theorem dL_act_70 : decode cL_act 70 = .ok (.bipush 9, 2) := by decide +kernel
theorem dL_act_72 : decode cL_act 72 = .ok (.ishr, 1) := by decide +kernel
theorem dL_act_73 : decode cL_act 73 = .ok (.iconst 3, 1) := by decide +kernel
theorem dL_act_74 : decode cL_act 74 = .ok (.invokestatic 56, 3) := by decide +kernel
theorem dL_act_77 : decode cL_act 77 = .ok (.istore 5, 2) := by decide +kernel
theorem dL_act_79 : decode cL_act 79 = .ok (.iload_n 3, 1) := by decide +kernel
theorem dL_act_80 : decode cL_act 80 = .ok (.bipush 8, 2) := by decide +kernel
theorem dL_act_82 : decode cL_act 82 = .ok (.if_icmp .ge 54, 3) := by decide +kernel
theorem dL_act_85 : decode cL_act 85 = .ok (.aload_n 0, 1) := by decide +kernel
theorem dL_act_86 : decode cL_act 86 = .ok (.iconst 0, 1) := by decide +kernel
theorem dL_act_87 : decode cL_act 87 = .ok (.iload_n 2, 1) := by decide +kernel
theorem dL_act_88 : decode cL_act 88 = .ok (.ifCond .eq 19, 3) := by decide +kernel
theorem dL_act_91 : decode cL_act 91 = .ok (.iload_n 1, 1) := by decide +kernel
theorem dL_act_92 : decode cL_act 92 = .ok (.bipush 6, 2) := by decide +kernel
theorem dL_act_94 : decode cL_act 94 = .ok (.ishr, 1) := by decide +kernel
theorem dL_act_95 : decode cL_act 95 = .ok (.sipush 1200, 3) := by decide +kernel
theorem dL_act_98 : decode cL_act 98 = .ok (.invokestatic 56, 3) := by decide +kernel
theorem dL_act_101 : decode cL_act 101 = .ok (.bipush 99, 2) := by decide +kernel
theorem dL_act_103 : decode cL_act 103 = .ok (.isub, 1) := by decide +kernel
theorem dL_act_104 : decode cL_act 104 = .ok (.goto 27, 3) := by decide +kernel
theorem dL_act_107 : decode cL_act 107 = .ok (.iload_n 1, 1) := by decide +kernel
theorem dL_act_108 : decode cL_act 108 = .ok (.bipush 6, 2) := by decide +kernel
theorem dL_act_110 : decode cL_act 110 = .ok (.ishr, 1) := by decide +kernel
theorem dL_act_111 : decode cL_act 111 = .ok (.iload_n 1, 1) := by decide +kernel
theorem dL_act_112 : decode cL_act 112 = .ok (.bipush 17, 2) := by decide +kernel
theorem dL_act_114 : decode cL_act 114 = .ok (.ishr, 1) := by decide +kernel
theorem dL_act_115 : decode cL_act 115 = .ok (.iconst 1, 1) := by decide +kernel
theorem dL_act_116 : decode cL_act 116 = .ok (.iand, 1) := by decide +kernel
theorem dL_act_117 : decode cL_act 117 = .ok (.ifCond .ne 9, 3) := by decide +kernel
theorem dL_act_120 : decode cL_act 120 = .ok (.sipush 1001, 3) := by decide +kernel
theorem dL_act_123 : decode cL_act 123 = .ok (.goto 5, 3) := by decide +kernel
theorem dL_act_126 : decode cL_act 126 = .ok (.bipush 9, 2) := by decide +kernel
theorem dL_act_128 : decode cL_act 128 = .ok (.invokestatic 56, 3) := by decide +kernel
theorem dL_act_131 : decode cL_act 131 = .ok (.iconst 0, 1) := by decide +kernel
theorem dL_act_132 : decode cL_act 132 = .ok (.invokestatic 61, 3) := by decide +kernel
theorem dL_act_135 : decode cL_act 135 = .ok (.ireturn, 1) := by decide +kernel
theorem dL_act_136 : decode cL_act 136 = .ok (.iload_n 3, 1) := by decide +kernel
theorem dL_act_137 : decode cL_act 137 = .ok (.bipush 15, 2) := by decide +kernel
theorem dL_act_139 : decode cL_act 139 = .ok (.if_icmp .ge 7, 3) := by decide +kernel
theorem dL_act_142 : decode cL_act 142 = .ok (.iconst 1, 1) := by decide +kernel
theorem dL_act_143 : decode cL_act 143 = .ok (.goto 67, 3) := by decide +kernel
theorem dL_act_146 : decode cL_act 146 = .ok (.iload_n 3, 1) := by decide +kernel
theorem dL_act_147 : decode cL_act 147 = .ok (.bipush 15, 2) := by decide +kernel
theorem dL_act_149 : decode cL_act 149 = .ok (.if_icmp .ne 7, 3) := by decide +kernel
theorem dL_act_152 : decode cL_act 152 = .ok (.iconst 2, 1) := by decide +kernel
theorem dL_act_153 : decode cL_act 153 = .ok (.goto 57, 3) := by decide +kernel
theorem dL_act_156 : decode cL_act 156 = .ok (.iload_n 3, 1) := by decide +kernel
theorem dL_act_157 : decode cL_act 157 = .ok (.bipush 19, 2) := by decide +kernel
theorem dL_act_159 : decode cL_act 159 = .ok (.if_icmp .ge 7, 3) := by decide +kernel
theorem dL_act_162 : decode cL_act 162 = .ok (.iconst 3, 1) := by decide +kernel
theorem dL_act_163 : decode cL_act 163 = .ok (.goto 47, 3) := by decide +kernel
theorem dL_act_166 : decode cL_act 166 = .ok (.iload_n 3, 1) := by decide +kernel
theorem dL_act_167 : decode cL_act 167 = .ok (.bipush 28, 2) := by decide +kernel
theorem dL_act_169 : decode cL_act 169 = .ok (.if_icmp .ge 7, 3) := by decide +kernel
theorem dL_act_172 : decode cL_act 172 = .ok (.iconst 4, 1) := by decide +kernel
theorem dL_act_173 : decode cL_act 173 = .ok (.goto 37, 3) := by decide +kernel
theorem dL_act_176 : decode cL_act 176 = .ok (.iload_n 3, 1) := by decide +kernel
theorem dL_act_177 : decode cL_act 177 = .ok (.bipush 28, 2) := by decide +kernel
theorem dL_act_179 : decode cL_act 179 = .ok (.if_icmp .ne 7, 3) := by decide +kernel
theorem dL_act_182 : decode cL_act 182 = .ok (.iconst 5, 1) := by decide +kernel
theorem dL_act_183 : decode cL_act 183 = .ok (.goto 27, 3) := by decide +kernel
theorem dL_act_186 : decode cL_act 186 = .ok (.iload_n 3, 1) := by decide +kernel
theorem dL_act_187 : decode cL_act 187 = .ok (.bipush 34, 2) := by decide +kernel
theorem dL_act_189 : decode cL_act 189 = .ok (.if_icmp .ge 8, 3) := by decide +kernel
theorem dL_act_192 : decode cL_act 192 = .ok (.bipush 6, 2) := by decide +kernel
theorem dL_act_194 : decode cL_act 194 = .ok (.goto 16, 3) := by decide +kernel
theorem dL_act_197 : decode cL_act 197 = .ok (.iload_n 3, 1) := by decide +kernel
theorem dL_act_198 : decode cL_act 198 = .ok (.bipush 36, 2) := by decide +kernel
theorem dL_act_200 : decode cL_act 200 = .ok (.if_icmp .ge 8, 3) := by decide +kernel
theorem dL_act_203 : decode cL_act 203 = .ok (.bipush 7, 2) := by decide +kernel
theorem dL_act_205 : decode cL_act 205 = .ok (.goto 5, 3) := by decide +kernel
theorem dL_act_208 : decode cL_act 208 = .ok (.bipush 8, 2) := by decide +kernel
theorem dL_act_210 : decode cL_act 210 = .ok (.istore 6, 2) := by decide +kernel
theorem dL_act_212 : decode cL_act 212 = .ok (.aload_n 0, 1) := by decide +kernel
theorem dL_act_213 : decode cL_act 213 = .ok (.iload 6, 2) := by decide +kernel
theorem dL_act_215 : decode cL_act 215 = .ok (.iload 4, 2) := by decide +kernel
theorem dL_act_217 : decode cL_act 217 = .ok (.iload 5, 2) := by decide +kernel
theorem dL_act_219 : decode cL_act 219 = .ok (.invokestatic 61, 3) := by decide +kernel
theorem dL_act_222 : decode cL_act 222 = .ok (.ireturn, 1) := by decide +kernel
theorem dL_areAlike_0 : decode cL_areAlike 0 = .ok (.aload_n 0, 1) := by decide +kernel
theorem dL_areAlike_1 : decode cL_areAlike 1 = .ok (.invokevirtual 65, 3) := by decide +kernel
theorem dL_areAlike_4 : decode cL_areAlike 4 = .ok (.aload_n 1, 1) := by decide +kernel
theorem dL_areAlike_5 : decode cL_areAlike 5 = .ok (.invokevirtual 65, 3) := by decide +kernel
theorem dL_areAlike_8 : decode cL_areAlike 8 = .ok (.if_icmp .ne 7, 3) := by decide +kernel
theorem dL_areAlike_11 : decode cL_areAlike 11 = .ok (.iconst 1, 1) := by decide +kernel
theorem dL_areAlike_12 : decode cL_areAlike 12 = .ok (.goto 4, 3) := by decide +kernel
theorem dL_areAlike_15 : decode cL_areAlike 15 = .ok (.iconst 0, 1) := by decide +kernel
theorem dL_areAlike_16 : decode cL_areAlike 16 = .ok (.istore_n 2, 1) := by decide +kernel
theorem dL_areAlike_17 : decode cL_areAlike 17 = .ok (.iconst 0, 1) := by decide +kernel
theorem dL_areAlike_18 : decode cL_areAlike 18 = .ok (.istore_n 3, 1) := by decide +kernel
theorem dL_areAlike_19 : decode cL_areAlike 19 = .ok (.iload_n 3, 1) := by decide +kernel
theorem dL_areAlike_20 : decode cL_areAlike 20 = .ok (.iconst 4, 1) := by decide +kernel
theorem dL_areAlike_21 : decode cL_areAlike 21 = .ok (.if_icmp .ge 147, 3) := by decide +kernel
theorem dL_areAlike_24 : decode cL_areAlike 24 = .ok (.iload_n 2, 1) := by decide +kernel
theorem dL_areAlike_25 : decode cL_areAlike 25 = .ok (.ifCond .eq 143, 3) := by decide +kernel
theorem dL_areAlike_28 : decode cL_areAlike 28 = .ok (.aload_n 0, 1) := by decide +kernel
theorem dL_areAlike_29 : decode cL_areAlike 29 = .ok (.iload_n 3, 1) := by decide +kernel
theorem dL_areAlike_30 : decode cL_areAlike 30 = .ok (.invokevirtual 68, 3) := by decide +kernel
theorem dL_areAlike_33 : decode cL_areAlike 33 = .ok (.aload_n 1, 1) := by decide +kernel
theorem dL_areAlike_34 : decode cL_areAlike 34 = .ok (.iload_n 3, 1) := by decide +kernel
theorem dL_areAlike_35 : decode cL_areAlike 35 = .ok (.invokevirtual 68, 3) := by decide +kernel
theorem dL_areAlike_38 : decode cL_areAlike 38 = .ok (.if_icmp .ne 33, 3) := by decide +kernel
theorem dL_areAlike_41 : decode cL_areAlike 41 = .ok (.aload_n 0, 1) := by decide +kernel
theorem dL_areAlike_42 : decode cL_areAlike 42 = .ok (.iload_n 3, 1) := by decide +kernel
theorem dL_areAlike_43 : decode cL_areAlike 43 = .ok (.invokevirtual 71, 3) := by decide +kernel
theorem dL_areAlike_46 : decode cL_areAlike 46 = .ok (.aload_n 1, 1) := by decide +kernel
theorem dL_areAlike_47 : decode cL_areAlike 47 = .ok (.iload_n 3, 1) := by decide +kernel
theorem dL_areAlike_48 : decode cL_areAlike 48 = .ok (.invokevirtual 71, 3) := by decide +kernel
theorem dL_areAlike_51 : decode cL_areAlike 51 = .ok (.if_icmp .ne 20, 3) := by decide +kernel
theorem dL_areAlike_54 : decode cL_areAlike 54 = .ok (.aload_n 0, 1) := by decide +kernel
theorem dL_areAlike_55 : decode cL_areAlike 55 = .ok (.iload_n 3, 1) := by decide +kernel
theorem dL_areAlike_56 : decode cL_areAlike 56 = .ok (.invokevirtual 74, 3) := by decide +kernel
theorem dL_areAlike_59 : decode cL_areAlike 59 = .ok (.aload_n 1, 1) := by decide +kernel
theorem dL_areAlike_60 : decode cL_areAlike 60 = .ok (.iload_n 3, 1) := by decide +kernel
theorem dL_areAlike_61 : decode cL_areAlike 61 = .ok (.invokevirtual 74, 3) := by decide +kernel
theorem dL_areAlike_64 : decode cL_areAlike 64 = .ok (.if_icmp .ne 7, 3) := by decide +kernel
theorem dL_areAlike_67 : decode cL_areAlike 67 = .ok (.iconst 1, 1) := by decide +kernel
theorem dL_areAlike_68 : decode cL_areAlike 68 = .ok (.goto 4, 3) := by decide +kernel
theorem dL_areAlike_71 : decode cL_areAlike 71 = .ok (.iconst 0, 1) := by decide +kernel
theorem dL_areAlike_72 : decode cL_areAlike 72 = .ok (.istore_n 2, 1) := by decide +kernel
theorem dL_areAlike_73 : decode cL_areAlike 73 = .ok (.iconst 0, 1) := by decide +kernel
theorem dL_areAlike_74 : decode cL_areAlike 74 = .ok (.istore 4, 2) := by decide +kernel
theorem dL_areAlike_76 : decode cL_areAlike 76 = .ok (.iload 4, 2) := by decide +kernel
theorem dL_areAlike_78 : decode cL_areAlike 78 = .ok (.bipush 6, 2) := by decide +kernel
theorem dL_areAlike_80 : decode cL_areAlike 80 = .ok (.if_icmp .ge 82, 3) := by decide +kernel
theorem dL_areAlike_83 : decode cL_areAlike 83 = .ok (.iload_n 2, 1) := by decide +kernel
theorem dL_areAlike_84 : decode cL_areAlike 84 = .ok (.ifCond .eq 78, 3) := by decide +kernel
theorem dL_areAlike_87 : decode cL_areAlike 87 = .ok (.aload_n 0, 1) := by decide +kernel
theorem dL_areAlike_88 : decode cL_areAlike 88 = .ok (.iload_n 3, 1) := by decide +kernel
theorem dL_areAlike_89 : decode cL_areAlike 89 = .ok (.iload 4, 2) := by decide +kernel
theorem dL_areAlike_91 : decode cL_areAlike 91 = .ok (.invokevirtual 50, 3) := by decide +kernel
theorem dL_areAlike_94 : decode cL_areAlike 94 = .ok (.aload_n 1, 1) := by decide +kernel
theorem dL_areAlike_95 : decode cL_areAlike 95 = .ok (.iload_n 3, 1) := by decide +kernel
theorem dL_areAlike_96 : decode cL_areAlike 96 = .ok (.iload 4, 2) := by decide +kernel
theorem dL_areAlike_98 : decode cL_areAlike 98 = .ok (.invokevirtual 50, 3) := by decide +kernel
theorem dL_areAlike_101 : decode cL_areAlike 101 = .ok (.if_icmp .ne 53, 3) := by decide +kernel
theorem dL_areAlike_104 : decode cL_areAlike 104 = .ok (.iload 4, 2) := by decide +kernel
theorem dL_areAlike_106 : decode cL_areAlike 106 = .ok (.iconst 4, 1) := by decide +kernel
theorem dL_areAlike_107 : decode cL_areAlike 107 = .ok (.if_icmp .gt 20, 3) := by decide +kernel
theorem dL_areAlike_110 : decode cL_areAlike 110 = .ok (.aload_n 0, 1) := by decide +kernel
theorem dL_areAlike_111 : decode cL_areAlike 111 = .ok (.iload_n 3, 1) := by decide +kernel
theorem dL_areAlike_112 : decode cL_areAlike 112 = .ok (.iload 4, 2) := by decide +kernel
theorem dL_areAlike_114 : decode cL_areAlike 114 = .ok (.invokevirtual 53, 3) := by decide +kernel
theorem dL_areAlike_117 : decode cL_areAlike 117 = .ok (.aload_n 1, 1) := by decide +kernel
theorem dL_areAlike_118 : decode cL_areAlike 118 = .ok (.iload_n 3, 1) := by decide +kernel
theorem dL_areAlike_119 : decode cL_areAlike 119 = .ok (.iload 4, 2) := by decide +kernel
theorem dL_areAlike_121 : decode cL_areAlike 121 = .ok (.invokevirtual 53, 3) := by decide +kernel
theorem dL_areAlike_124 : decode cL_areAlike 124 = .ok (.if_icmp .ne 30, 3) := by decide +kernel
theorem dL_areAlike_127 : decode cL_areAlike 127 = .ok (.iload 4, 2) := by decide +kernel
theorem dL_areAlike_129 : decode cL_areAlike 129 = .ok (.iconst 2, 1) := by decide +kernel
theorem dL_areAlike_130 : decode cL_areAlike 130 = .ok (.if_icmp .gt 20, 3) := by decide +kernel
theorem dL_areAlike_133 : decode cL_areAlike 133 = .ok (.aload_n 0, 1) := by decide +kernel
theorem dL_areAlike_134 : decode cL_areAlike 134 = .ok (.iload_n 3, 1) := by decide +kernel
theorem dL_areAlike_135 : decode cL_areAlike 135 = .ok (.iload 4, 2) := by decide +kernel
theorem dL_areAlike_137 : decode cL_areAlike 137 = .ok (.invokevirtual 77, 3) := by decide +kernel
theorem dL_areAlike_140 : decode cL_areAlike 140 = .ok (.aload_n 1, 1) := by decide +kernel
theorem dL_areAlike_141 : decode cL_areAlike 141 = .ok (.iload_n 3, 1) := by decide +kernel
theorem dL_areAlike_142 : decode cL_areAlike 142 = .ok (.iload 4, 2) := by decide +kernel
theorem dL_areAlike_144 : decode cL_areAlike 144 = .ok (.invokevirtual 77, 3) := by decide +kernel
theorem dL_areAlike_147 : decode cL_areAlike 147 = .ok (.if_icmp .ne 7, 3) := by decide +kernel
theorem dL_areAlike_150 : decode cL_areAlike 150 = .ok (.iconst 1, 1) := by decide +kernel
theorem dL_areAlike_151 : decode cL_areAlike 151 = .ok (.goto 4, 3) := by decide +kernel
theorem dL_areAlike_154 : decode cL_areAlike 154 = .ok (.iconst 0, 1) := by decide +kernel
theorem dL_areAlike_155 : decode cL_areAlike 155 = .ok (.istore_n 2, 1) := by decide +kernel
theorem dL_areAlike_156 : decode cL_areAlike 156 = .ok (.iinc 4 1, 3) := by decide +kernel
theorem dL_areAlike_159 : decode cL_areAlike 159 = .ok (.goto (-83), 3) := by decide +kernel
theorem dL_areAlike_162 : decode cL_areAlike 162 = .ok (.iinc 3 1, 3) := by decide +kernel
theorem dL_areAlike_165 : decode cL_areAlike 165 = .ok (.goto (-146), 3) := by decide +kernel
theorem dL_areAlike_168 : decode cL_areAlike 168 = .ok (.iload_n 2, 1) := by decide +kernel
theorem dL_areAlike_169 : decode cL_areAlike 169 = .ok (.ireturn, 1) := by decide +kernel
theorem dL_isHallSo_0 : decode cL_isHallSo 0 = .ok (.aload_n 0, 1) := by decide +kernel
theorem dL_isHallSo_1 : decode cL_isHallSo 1 = .ok (.iload_n 1, 1) := by decide +kernel
theorem dL_isHallSo_2 : decode cL_isHallSo 2 = .ok (.invokestatic 80, 3) := by decide +kernel
theorem dL_isHallSo_5 : decode cL_isHallSo 5 = .ok (.istore_n 2, 1) := by decide +kernel
theorem dL_isHallSo_6 : decode cL_isHallSo 6 = .ok (.aload_n 0, 1) := by decide +kernel
theorem dL_isHallSo_7 : decode cL_isHallSo 7 = .ok (.iload_n 1, 1) := by decide +kernel
theorem dL_isHallSo_8 : decode cL_isHallSo 8 = .ok (.invokestatic 84, 3) := by decide +kernel
theorem dL_isHallSo_11 : decode cL_isHallSo 11 = .ok (.iload_n 2, 1) := by decide +kernel
theorem dL_isHallSo_12 : decode cL_isHallSo 12 = .ok (.aload_n 0, 1) := by decide +kernel
theorem dL_isHallSo_13 : decode cL_isHallSo 13 = .ok (.iload_n 1, 1) := by decide +kernel
theorem dL_isHallSo_14 : decode cL_isHallSo 14 = .ok (.invokestatic 87, 3) := by decide +kernel
theorem dL_isHallSo_17 : decode cL_isHallSo 17 = .ok (.iadd, 1) := by decide +kernel
theorem dL_isHallSo_18 : decode cL_isHallSo 18 = .ok (.if_icmp .ne 43, 3) := by decide +kernel
theorem dL_isHallSo_21 : decode cL_isHallSo 21 = .ok (.aload_n 0, 1) := by decide +kernel
theorem dL_isHallSo_22 : decode cL_isHallSo 22 = .ok (.iload_n 1, 1) := by decide +kernel
theorem dL_isHallSo_23 : decode cL_isHallSo 23 = .ok (.invokevirtual 68, 3) := by decide +kernel
theorem dL_isHallSo_26 : decode cL_isHallSo 26 = .ok (.ifCond .lt 35, 3) := by decide +kernel
theorem dL_isHallSo_29 : decode cL_isHallSo 29 = .ok (.aload_n 0, 1) := by decide +kernel
theorem dL_isHallSo_30 : decode cL_isHallSo 30 = .ok (.iload_n 1, 1) := by decide +kernel
theorem dL_isHallSo_31 : decode cL_isHallSo 31 = .ok (.invokevirtual 68, 3) := by decide +kernel
theorem dL_isHallSo_34 : decode cL_isHallSo 34 = .ok (.bipush 100, 2) := by decide +kernel
theorem dL_isHallSo_36 : decode cL_isHallSo 36 = .ok (.if_icmp .gt 25, 3) := by decide +kernel
theorem dL_isHallSo_39 : decode cL_isHallSo 39 = .ok (.aload_n 0, 1) := by decide +kernel
theorem dL_isHallSo_40 : decode cL_isHallSo 40 = .ok (.iload_n 1, 1) := by decide +kernel
theorem dL_isHallSo_41 : decode cL_isHallSo 41 = .ok (.invokevirtual 71, 3) := by decide +kernel
theorem dL_isHallSo_44 : decode cL_isHallSo 44 = .ok (.ifCond .lt 17, 3) := by decide +kernel
theorem dL_isHallSo_47 : decode cL_isHallSo 47 = .ok (.aload_n 0, 1) := by decide +kernel
theorem dL_isHallSo_48 : decode cL_isHallSo 48 = .ok (.iload_n 1, 1) := by decide +kernel
theorem dL_isHallSo_49 : decode cL_isHallSo 49 = .ok (.invokevirtual 71, 3) := by decide +kernel
theorem dL_isHallSo_52 : decode cL_isHallSo 52 = .ok (.bipush 20, 2) := by decide +kernel
theorem dL_isHallSo_54 : decode cL_isHallSo 54 = .ok (.if_icmp .gt 7, 3) := by decide +kernel
theorem dL_isHallSo_57 : decode cL_isHallSo 57 = .ok (.iconst 1, 1) := by decide +kernel
theorem dL_isHallSo_58 : decode cL_isHallSo 58 = .ok (.goto 4, 3) := by decide +kernel
theorem dL_isHallSo_61 : decode cL_isHallSo 61 = .ok (.iconst 0, 1) := by decide +kernel
theorem dL_isHallSo_62 : decode cL_isHallSo 62 = .ok (.istore_n 3, 1) := by decide +kernel
theorem dL_isHallSo_63 : decode cL_isHallSo 63 = .ok (.iconst 0, 1) := by decide +kernel
theorem dL_isHallSo_64 : decode cL_isHallSo 64 = .ok (.istore 4, 2) := by decide +kernel
theorem dL_isHallSo_66 : decode cL_isHallSo 66 = .ok (.iload 4, 2) := by decide +kernel
theorem dL_isHallSo_68 : decode cL_isHallSo 68 = .ok (.bipush 9, 2) := by decide +kernel
theorem dL_isHallSo_70 : decode cL_isHallSo 70 = .ok (.if_icmp .ge 57, 3) := by decide +kernel
theorem dL_isHallSo_73 : decode cL_isHallSo 73 = .ok (.iload_n 3, 1) := by decide +kernel
theorem dL_isHallSo_74 : decode cL_isHallSo 74 = .ok (.ifCond .eq 53, 3) := by decide +kernel
theorem dL_isHallSo_77 : decode cL_isHallSo 77 = .ok (.aload_n 0, 1) := by decide +kernel
theorem dL_isHallSo_78 : decode cL_isHallSo 78 = .ok (.iload 4, 2) := by decide +kernel
theorem dL_isHallSo_80 : decode cL_isHallSo 80 = .ok (.invokevirtual 90, 3) := by decide +kernel
theorem dL_isHallSo_83 : decode cL_isHallSo 83 = .ok (.ifCond .lt 36, 3) := by decide +kernel
theorem dL_isHallSo_86 : decode cL_isHallSo 86 = .ok (.aload_n 0, 1) := by decide +kernel
theorem dL_isHallSo_87 : decode cL_isHallSo 87 = .ok (.iload 4, 2) := by decide +kernel
theorem dL_isHallSo_89 : decode cL_isHallSo 89 = .ok (.invokevirtual 90, 3) := by decide +kernel
theorem dL_isHallSo_92 : decode cL_isHallSo 92 = .ok (.bipush 9, 2) := by decide +kernel
theorem dL_isHallSo_94 : decode cL_isHallSo 94 = .ok (.if_icmp .gt 25, 3) := by decide +kernel
theorem dL_isHallSo_97 : decode cL_isHallSo 97 = .ok (.aload_n 0, 1) := by decide +kernel
theorem dL_isHallSo_98 : decode cL_isHallSo 98 = .ok (.iload 4, 2) := by decide +kernel
theorem dL_isHallSo_100 : decode cL_isHallSo 100 = .ok (.invokevirtual 90, 3) := by decide +kernel
theorem dL_isHallSo_103 : decode cL_isHallSo 103 = .ok (.aload_n 0, 1) := by decide +kernel
theorem dL_isHallSo_104 : decode cL_isHallSo 104 = .ok (.iload 4, 2) := by decide +kernel
theorem dL_isHallSo_106 : decode cL_isHallSo 106 = .ok (.invokevirtual 93, 3) := by decide +kernel
theorem dL_isHallSo_109 : decode cL_isHallSo 109 = .ok (.iadd, 1) := by decide +kernel
theorem dL_isHallSo_110 : decode cL_isHallSo 110 = .ok (.bipush 9, 2) := by decide +kernel
theorem dL_isHallSo_112 : decode cL_isHallSo 112 = .ok (.if_icmp .ne 7, 3) := by decide +kernel
theorem dL_isHallSo_115 : decode cL_isHallSo 115 = .ok (.iconst 1, 1) := by decide +kernel
theorem dL_isHallSo_116 : decode cL_isHallSo 116 = .ok (.goto 4, 3) := by decide +kernel
theorem dL_isHallSo_119 : decode cL_isHallSo 119 = .ok (.iconst 0, 1) := by decide +kernel
theorem dL_isHallSo_120 : decode cL_isHallSo 120 = .ok (.istore_n 3, 1) := by decide +kernel
theorem dL_isHallSo_121 : decode cL_isHallSo 121 = .ok (.iinc 4 1, 3) := by decide +kernel
theorem dL_isHallSo_124 : decode cL_isHallSo 124 = .ok (.goto (-58), 3) := by decide +kernel
theorem dL_isHallSo_127 : decode cL_isHallSo 127 = .ok (.iconst 0, 1) := by decide +kernel
theorem dL_isHallSo_128 : decode cL_isHallSo 128 = .ok (.istore 4, 2) := by decide +kernel
theorem dL_isHallSo_130 : decode cL_isHallSo 130 = .ok (.iload 4, 2) := by decide +kernel
theorem dL_isHallSo_132 : decode cL_isHallSo 132 = .ok (.iload_n 2, 1) := by decide +kernel
theorem dL_isHallSo_133 : decode cL_isHallSo 133 = .ok (.if_icmp .ge 95, 3) := by decide +kernel
theorem dL_isHallSo_136 : decode cL_isHallSo 136 = .ok (.iload_n 3, 1) := by decide +kernel
theorem dL_isHallSo_137 : decode cL_isHallSo 137 = .ok (.ifCond .eq 91, 3) := by decide +kernel
theorem dL_isHallSo_140 : decode cL_isHallSo 140 = .ok (.aload_n 0, 1) := by decide +kernel
theorem dL_isHallSo_141 : decode cL_isHallSo 141 = .ok (.iload_n 1, 1) := by decide +kernel
theorem dL_isHallSo_142 : decode cL_isHallSo 142 = .ok (.iload 4, 2) := by decide +kernel
theorem dL_isHallSo_144 : decode cL_isHallSo 144 = .ok (.invokevirtual 53, 3) := by decide +kernel
theorem dL_isHallSo_147 : decode cL_isHallSo 147 = .ok (.istore 5, 2) := by decide +kernel
theorem dL_isHallSo_149 : decode cL_isHallSo 149 = .ok (.aload_n 0, 1) := by decide +kernel
theorem dL_isHallSo_150 : decode cL_isHallSo 150 = .ok (.iload_n 1, 1) := by decide +kernel
theorem dL_isHallSo_151 : decode cL_isHallSo 151 = .ok (.iload 4, 2) := by decide +kernel
theorem dL_isHallSo_153 : decode cL_isHallSo 153 = .ok (.invokevirtual 96, 3) := by decide +kernel
theorem dL_isHallSo_156 : decode cL_isHallSo 156 = .ok (.iconst 2, 1) := by decide +kernel
theorem dL_isHallSo_157 : decode cL_isHallSo 157 = .ok (.iload 5, 2) := by decide +kernel
theorem dL_isHallSo_159 : decode cL_isHallSo 159 = .ok (.bipush 30, 2) := by decide +kernel
theorem dL_isHallSo_161 : decode cL_isHallSo 161 = .ok (.idiv, 1) := by decide +kernel
theorem dL_isHallSo_162 : decode cL_isHallSo 162 = .ok (.iconst 1, 1) := by decide +kernel
theorem dL_isHallSo_163 : decode cL_isHallSo 163 = .ok (.iadd, 1) := by decide +kernel
theorem dL_isHallSo_164 : decode cL_isHallSo 164 = .ok (.imul, 1) := by decide +kernel
theorem dL_isHallSo_165 : decode cL_isHallSo 165 = .ok (.iload 5, 2) := by decide +kernel
theorem dL_isHallSo_167 : decode cL_isHallSo 167 = .ok (.bipush 10, 2) := by decide +kernel
theorem dL_isHallSo_169 : decode cL_isHallSo 169 = .ok (.irem, 1) := by decide +kernel
theorem dL_isHallSo_170 : decode cL_isHallSo 170 = .ok (.imul, 1) := by decide +kernel
theorem dL_isHallSo_171 : decode cL_isHallSo 171 = .ok (.isub, 1) := by decide +kernel
theorem dL_isHallSo_172 : decode cL_isHallSo 172 = .ok (.istore 6, 2) := by decide +kernel
theorem dL_isHallSo_174 : decode cL_isHallSo 174 = .ok (.iload 5, 2) := by decide +kernel
theorem dL_isHallSo_176 : decode cL_isHallSo 176 = .ok (.bipush 90, 2) := by decide +kernel
theorem dL_isHallSo_178 : decode cL_isHallSo 178 = .ok (.if_icmp .ge 42, 3) := by decide +kernel
theorem dL_isHallSo_181 : decode cL_isHallSo 181 = .ok (.iload 5, 2) := by decide +kernel
theorem dL_isHallSo_183 : decode cL_isHallSo 183 = .ok (.bipush 10, 2) := by decide +kernel
theorem dL_isHallSo_185 : decode cL_isHallSo 185 = .ok (.irem, 1) := by decide +kernel
theorem dL_isHallSo_186 : decode cL_isHallSo 186 = .ok (.iconst 1, 1) := by decide +kernel
theorem dL_isHallSo_187 : decode cL_isHallSo 187 = .ok (.if_icmp .lt 33, 3) := by decide +kernel
theorem dL_isHallSo_190 : decode cL_isHallSo 190 = .ok (.iload 5, 2) := by decide +kernel
theorem dL_isHallSo_192 : decode cL_isHallSo 192 = .ok (.bipush 10, 2) := by decide +kernel
theorem dL_isHallSo_194 : decode cL_isHallSo 194 = .ok (.irem, 1) := by decide +kernel
theorem dL_isHallSo_195 : decode cL_isHallSo 195 = .ok (.iconst 3, 1) := by decide +kernel
theorem dL_isHallSo_196 : decode cL_isHallSo 196 = .ok (.if_icmp .gt 24, 3) := by decide +kernel
theorem dL_isHallSo_199 : decode cL_isHallSo 199 = .ok (.iload 6, 2) := by decide +kernel
theorem dL_isHallSo_201 : decode cL_isHallSo 201 = .ok (.ifCond .lt 19, 3) := by decide +kernel
theorem dL_isHallSo_204 : decode cL_isHallSo 204 = .ok (.iload 6, 2) := by decide +kernel
theorem dL_isHallSo_206 : decode cL_isHallSo 206 = .ok (.iconst 2, 1) := by decide +kernel
theorem dL_isHallSo_207 : decode cL_isHallSo 207 = .ok (.if_icmp .gt 13, 3) := by decide +kernel
theorem dL_isHallSo_210 : decode cL_isHallSo 210 = .ok (.iload 6, 2) := by decide +kernel
theorem dL_isHallSo_212 : decode cL_isHallSo 212 = .ok (.iload_n 2, 1) := by decide +kernel
theorem dL_isHallSo_213 : decode cL_isHallSo 213 = .ok (.if_icmp .ge 7, 3) := by decide +kernel
theorem dL_isHallSo_216 : decode cL_isHallSo 216 = .ok (.iconst 1, 1) := by decide +kernel
theorem dL_isHallSo_217 : decode cL_isHallSo 217 = .ok (.goto 4, 3) := by decide +kernel
theorem dL_isHallSo_220 : decode cL_isHallSo 220 = .ok (.iconst 0, 1) := by decide +kernel
theorem dL_isHallSo_221 : decode cL_isHallSo 221 = .ok (.istore_n 3, 1) := by decide +kernel
theorem dL_isHallSo_222 : decode cL_isHallSo 222 = .ok (.iinc 4 1, 3) := by decide +kernel
theorem dL_isHallSo_225 : decode cL_isHallSo 225 = .ok (.goto (-95), 3) := by decide +kernel
theorem dL_isHallSo_228 : decode cL_isHallSo 228 = .ok (.iload_n 3, 1) := by decide +kernel
theorem dL_isHallSo_229 : decode cL_isHallSo 229 = .ok (.ireturn, 1) := by decide +kernel
theorem dL_isFoughtSo_0 : decode cL_isFoughtSo 0 = .ok (.aload_n 0, 1) := by decide +kernel
theorem dL_isFoughtSo_1 : decode cL_isFoughtSo 1 = .ok (.iload_n 1, 1) := by decide +kernel
theorem dL_isFoughtSo_2 : decode cL_isFoughtSo 2 = .ok (.iload_n 2, 1) := by decide +kernel
theorem dL_isFoughtSo_3 : decode cL_isFoughtSo 3 = .ok (.invokevirtual 99, 3) := by decide +kernel
theorem dL_isFoughtSo_6 : decode cL_isFoughtSo 6 = .ok (.istore_n 3, 1) := by decide +kernel
theorem dL_isFoughtSo_7 : decode cL_isFoughtSo 7 = .ok (.aload_n 0, 1) := by decide +kernel
theorem dL_isFoughtSo_8 : decode cL_isFoughtSo 8 = .ok (.iload_n 1, 1) := by decide +kernel
theorem dL_isFoughtSo_9 : decode cL_isFoughtSo 9 = .ok (.iload_n 2, 1) := by decide +kernel
theorem dL_isFoughtSo_10 : decode cL_isFoughtSo 10 = .ok (.invokevirtual 102, 3) := by decide +kernel
theorem dL_isFoughtSo_13 : decode cL_isFoughtSo 13 = .ok (.iload_n 3, 1) := by decide +kernel
theorem dL_isFoughtSo_14 : decode cL_isFoughtSo 14 = .ok (.if_icmp .ne 26, 3) := by decide +kernel
theorem dL_isFoughtSo_17 : decode cL_isFoughtSo 17 = .ok (.iload_n 3, 1) := by decide +kernel
theorem dL_isFoughtSo_18 : decode cL_isFoughtSo 18 = .ok (.aload_n 0, 1) := by decide +kernel
theorem dL_isFoughtSo_19 : decode cL_isFoughtSo 19 = .ok (.iload_n 1, 1) := by decide +kernel
theorem dL_isFoughtSo_20 : decode cL_isFoughtSo 20 = .ok (.invokestatic 80, 3) := by decide +kernel
theorem dL_isFoughtSo_23 : decode cL_isFoughtSo 23 = .ok (.if_icmp .gt 17, 3) := by decide +kernel
theorem dL_isFoughtSo_26 : decode cL_isFoughtSo 26 = .ok (.iload_n 3, 1) := by decide +kernel
theorem dL_isFoughtSo_27 : decode cL_isFoughtSo 27 = .ok (.ineg, 1) := by decide +kernel
theorem dL_isFoughtSo_28 : decode cL_isFoughtSo 28 = .ok (.aload_n 0, 1) := by decide +kernel
theorem dL_isFoughtSo_29 : decode cL_isFoughtSo 29 = .ok (.iload_n 2, 1) := by decide +kernel
theorem dL_isFoughtSo_30 : decode cL_isFoughtSo 30 = .ok (.invokestatic 80, 3) := by decide +kernel
theorem dL_isFoughtSo_33 : decode cL_isFoughtSo 33 = .ok (.if_icmp .gt 7, 3) := by decide +kernel
theorem dL_isFoughtSo_36 : decode cL_isFoughtSo 36 = .ok (.iconst 1, 1) := by decide +kernel
theorem dL_isFoughtSo_37 : decode cL_isFoughtSo 37 = .ok (.goto 4, 3) := by decide +kernel
theorem dL_isFoughtSo_40 : decode cL_isFoughtSo 40 = .ok (.iconst 0, 1) := by decide +kernel
theorem dL_isFoughtSo_41 : decode cL_isFoughtSo 41 = .ok (.istore 4, 2) := by decide +kernel
theorem dL_isFoughtSo_43 : decode cL_isFoughtSo 43 = .ok (.iload 4, 2) := by decide +kernel
theorem dL_isFoughtSo_45 : decode cL_isFoughtSo 45 = .ok (.ifCond .eq 42, 3) := by decide +kernel
theorem dL_isFoughtSo_48 : decode cL_isFoughtSo 48 = .ok (.aload_n 0, 1) := by decide +kernel
theorem dL_isFoughtSo_49 : decode cL_isFoughtSo 49 = .ok (.iload_n 1, 1) := by decide +kernel
theorem dL_isFoughtSo_50 : decode cL_isFoughtSo 50 = .ok (.invokestatic 80, 3) := by decide +kernel
theorem dL_isFoughtSo_53 : decode cL_isFoughtSo 53 = .ok (.ifCond .gt 13, 3) := by decide +kernel
theorem dL_isFoughtSo_56 : decode cL_isFoughtSo 56 = .ok (.iload_n 3, 1) := by decide +kernel
theorem dL_isFoughtSo_57 : decode cL_isFoughtSo 57 = .ok (.aload_n 0, 1) := by decide +kernel
theorem dL_isFoughtSo_58 : decode cL_isFoughtSo 58 = .ok (.iload_n 2, 1) := by decide +kernel
theorem dL_isFoughtSo_59 : decode cL_isFoughtSo 59 = .ok (.invokestatic 80, 3) := by decide +kernel
theorem dL_isFoughtSo_62 : decode cL_isFoughtSo 62 = .ok (.ineg, 1) := by decide +kernel
theorem dL_isFoughtSo_63 : decode cL_isFoughtSo 63 = .ok (.if_icmp .ne 24, 3) := by decide +kernel
theorem dL_isFoughtSo_66 : decode cL_isFoughtSo 66 = .ok (.aload_n 0, 1) := by decide +kernel
theorem dL_isFoughtSo_67 : decode cL_isFoughtSo 67 = .ok (.iload_n 2, 1) := by decide +kernel
theorem dL_isFoughtSo_68 : decode cL_isFoughtSo 68 = .ok (.invokestatic 80, 3) := by decide +kernel
theorem dL_isFoughtSo_71 : decode cL_isFoughtSo 71 = .ok (.ifCond .gt 12, 3) := by decide +kernel
theorem dL_isFoughtSo_74 : decode cL_isFoughtSo 74 = .ok (.iload_n 3, 1) := by decide +kernel
theorem dL_isFoughtSo_75 : decode cL_isFoughtSo 75 = .ok (.aload_n 0, 1) := by decide +kernel
theorem dL_isFoughtSo_76 : decode cL_isFoughtSo 76 = .ok (.iload_n 1, 1) := by decide +kernel
theorem dL_isFoughtSo_77 : decode cL_isFoughtSo 77 = .ok (.invokestatic 80, 3) := by decide +kernel
theorem dL_isFoughtSo_80 : decode cL_isFoughtSo 80 = .ok (.if_icmp .ne 7, 3) := by decide +kernel
theorem dL_isFoughtSo_83 : decode cL_isFoughtSo 83 = .ok (.iconst 1, 1) := by decide +kernel
theorem dL_isFoughtSo_84 : decode cL_isFoughtSo 84 = .ok (.goto 4, 3) := by decide +kernel
theorem dL_isFoughtSo_87 : decode cL_isFoughtSo 87 = .ok (.iconst 0, 1) := by decide +kernel
theorem dL_isFoughtSo_88 : decode cL_isFoughtSo 88 = .ok (.ireturn, 1) := by decide +kernel
theorem dL_isMovedSo_0 : decode cL_isMovedSo 0 = .ok (.aload_n 0, 1) := by decide +kernel
theorem dL_isMovedSo_1 : decode cL_isMovedSo 1 = .ok (.iload_n 2, 1) := by decide +kernel
theorem dL_isMovedSo_2 : decode cL_isMovedSo 2 = .ok (.invokestatic 80, 3) := by decide +kernel
theorem dL_isMovedSo_5 : decode cL_isMovedSo 5 = .ok (.istore 4, 2) := by decide +kernel
theorem dL_isMovedSo_7 : decode cL_isMovedSo 7 = .ok (.aload_n 0, 1) := by decide +kernel
theorem dL_isMovedSo_8 : decode cL_isMovedSo 8 = .ok (.iload_n 2, 1) := by decide +kernel
theorem dL_isMovedSo_9 : decode cL_isMovedSo 9 = .ok (.invokestatic 87, 3) := by decide +kernel
theorem dL_isMovedSo_12 : decode cL_isMovedSo 12 = .ok (.istore 5, 2) := by decide +kernel
theorem dL_isMovedSo_14 : decode cL_isMovedSo 14 = .ok (.iload_n 3, 1) := by decide +kernel
theorem dL_isMovedSo_15 : decode cL_isMovedSo 15 = .ok (.iload 5, 2) := by decide +kernel
theorem dL_isMovedSo_17 : decode cL_isMovedSo 17 = .ok (.if_icmp .ge 12, 3) := by decide +kernel
theorem dL_isMovedSo_20 : decode cL_isMovedSo 20 = .ok (.aload_n 0, 1) := by decide +kernel
theorem dL_isMovedSo_21 : decode cL_isMovedSo 21 = .ok (.iload_n 2, 1) := by decide +kernel
theorem dL_isMovedSo_22 : decode cL_isMovedSo 22 = .ok (.iload_n 3, 1) := by decide +kernel
theorem dL_isMovedSo_23 : decode cL_isMovedSo 23 = .ok (.invokevirtual 50, 3) := by decide +kernel
theorem dL_isMovedSo_26 : decode cL_isMovedSo 26 = .ok (.goto 4, 3) := by decide +kernel
theorem dL_isMovedSo_29 : decode cL_isMovedSo 29 = .ok (.iconst (-1), 1) := by decide +kernel
theorem dL_isMovedSo_30 : decode cL_isMovedSo 30 = .ok (.istore 6, 2) := by decide +kernel
theorem dL_isMovedSo_32 : decode cL_isMovedSo 32 = .ok (.aload_n 0, 1) := by decide +kernel
theorem dL_isMovedSo_33 : decode cL_isMovedSo 33 = .ok (.bipush 6, 2) := by decide +kernel
theorem dL_isMovedSo_35 : decode cL_isMovedSo 35 = .ok (.iload_n 2, 1) := by decide +kernel
theorem dL_isMovedSo_36 : decode cL_isMovedSo 36 = .ok (.iload_n 3, 1) := by decide +kernel
theorem dL_isMovedSo_37 : decode cL_isMovedSo 37 = .ok (.invokestatic 61, 3) := by decide +kernel
theorem dL_isMovedSo_40 : decode cL_isMovedSo 40 = .ok (.istore 7, 2) := by decide +kernel
theorem dL_isMovedSo_42 : decode cL_isMovedSo 42 = .ok (.aload_n 1, 1) := by decide +kernel
theorem dL_isMovedSo_43 : decode cL_isMovedSo 43 = .ok (.bipush 6, 2) := by decide +kernel
theorem dL_isMovedSo_45 : decode cL_isMovedSo 45 = .ok (.iload_n 2, 1) := by decide +kernel
theorem dL_isMovedSo_46 : decode cL_isMovedSo 46 = .ok (.iload_n 3, 1) := by decide +kernel
theorem dL_isMovedSo_47 : decode cL_isMovedSo 47 = .ok (.invokestatic 61, 3) := by decide +kernel
theorem dL_isMovedSo_50 : decode cL_isMovedSo 50 = .ok (.iload 7, 2) := by decide +kernel
theorem dL_isMovedSo_52 : decode cL_isMovedSo 52 = .ok (.if_icmp .ne 20, 3) := by decide +kernel
theorem dL_isMovedSo_55 : decode cL_isMovedSo 55 = .ok (.iload_n 3, 1) := by decide +kernel
theorem dL_isMovedSo_56 : decode cL_isMovedSo 56 = .ok (.iload 5, 2) := by decide +kernel
theorem dL_isMovedSo_58 : decode cL_isMovedSo 58 = .ok (.if_icmp .lt 10, 3) := by decide +kernel
theorem dL_isMovedSo_61 : decode cL_isMovedSo 61 = .ok (.iload 7, 2) := by decide +kernel
theorem dL_isMovedSo_63 : decode cL_isMovedSo 63 = .ok (.ldc 43, 2) := by decide +kernel
theorem dL_isMovedSo_65 : decode cL_isMovedSo 65 = .ok (.if_icmp .ne 7, 3) := by decide +kernel
theorem dL_isMovedSo_68 : decode cL_isMovedSo 68 = .ok (.iconst 1, 1) := by decide +kernel
theorem dL_isMovedSo_69 : decode cL_isMovedSo 69 = .ok (.goto 4, 3) := by decide +kernel
theorem dL_isMovedSo_72 : decode cL_isMovedSo 72 = .ok (.iconst 0, 1) := by decide +kernel
theorem dL_isMovedSo_73 : decode cL_isMovedSo 73 = .ok (.istore 8, 2) := by decide +kernel
theorem dL_isMovedSo_75 : decode cL_isMovedSo 75 = .ok (.iload 7, 2) := by decide +kernel
theorem dL_isMovedSo_77 : decode cL_isMovedSo 77 = .ok (.ldc 43, 2) := by decide +kernel
theorem dL_isMovedSo_79 : decode cL_isMovedSo 79 = .ok (.if_icmp .ne 34, 3) := by decide +kernel
theorem dL_isMovedSo_82 : decode cL_isMovedSo 82 = .ok (.iload 8, 2) := by decide +kernel
theorem dL_isMovedSo_84 : decode cL_isMovedSo 84 = .ok (.ifCond .eq 27, 3) := by decide +kernel
theorem dL_isMovedSo_87 : decode cL_isMovedSo 87 = .ok (.aload_n 0, 1) := by decide +kernel
theorem dL_isMovedSo_88 : decode cL_isMovedSo 88 = .ok (.iload_n 2, 1) := by decide +kernel
theorem dL_isMovedSo_89 : decode cL_isMovedSo 89 = .ok (.invokestatic 80, 3) := by decide +kernel
theorem dL_isMovedSo_92 : decode cL_isMovedSo 92 = .ok (.iload 4, 2) := by decide +kernel
theorem dL_isMovedSo_94 : decode cL_isMovedSo 94 = .ok (.if_icmp .ne 17, 3) := by decide +kernel
theorem dL_isMovedSo_97 : decode cL_isMovedSo 97 = .ok (.aload_n 0, 1) := by decide +kernel
theorem dL_isMovedSo_98 : decode cL_isMovedSo 98 = .ok (.iload_n 2, 1) := by decide +kernel
theorem dL_isMovedSo_99 : decode cL_isMovedSo 99 = .ok (.invokestatic 87, 3) := by decide +kernel
theorem dL_isMovedSo_102 : decode cL_isMovedSo 102 = .ok (.iload 5, 2) := by decide +kernel
theorem dL_isMovedSo_104 : decode cL_isMovedSo 104 = .ok (.if_icmp .ne 7, 3) := by decide +kernel
theorem dL_isMovedSo_107 : decode cL_isMovedSo 107 = .ok (.iconst 1, 1) := by decide +kernel
theorem dL_isMovedSo_108 : decode cL_isMovedSo 108 = .ok (.goto 4, 3) := by decide +kernel
theorem dL_isMovedSo_111 : decode cL_isMovedSo 111 = .ok (.iconst 0, 1) := by decide +kernel
theorem dL_isMovedSo_112 : decode cL_isMovedSo 112 = .ok (.ireturn, 1) := by decide +kernel
theorem dL_isMovedSo_113 : decode cL_isMovedSo 113 = .ok (.iload 8, 2) := by decide +kernel
theorem dL_isMovedSo_115 : decode cL_isMovedSo 115 = .ok (.ifCond .eq 54, 3) := by decide +kernel
theorem dL_isMovedSo_118 : decode cL_isMovedSo 118 = .ok (.iload 7, 2) := by decide +kernel
theorem dL_isMovedSo_120 : decode cL_isMovedSo 120 = .ok (.iload 4, 2) := by decide +kernel
theorem dL_isMovedSo_122 : decode cL_isMovedSo 122 = .ok (.iconst 1, 1) := by decide +kernel
theorem dL_isMovedSo_123 : decode cL_isMovedSo 123 = .ok (.iadd, 1) := by decide +kernel
theorem dL_isMovedSo_124 : decode cL_isMovedSo 124 = .ok (.if_icmp .ne 45, 3) := by decide +kernel
theorem dL_isMovedSo_127 : decode cL_isMovedSo 127 = .ok (.aload_n 0, 1) := by decide +kernel
theorem dL_isMovedSo_128 : decode cL_isMovedSo 128 = .ok (.iload_n 2, 1) := by decide +kernel
theorem dL_isMovedSo_129 : decode cL_isMovedSo 129 = .ok (.iload 4, 2) := by decide +kernel
theorem dL_isMovedSo_131 : decode cL_isMovedSo 131 = .ok (.invokevirtual 53, 3) := by decide +kernel
theorem dL_isMovedSo_134 : decode cL_isMovedSo 134 = .ok (.iload 6, 2) := by decide +kernel
theorem dL_isMovedSo_136 : decode cL_isMovedSo 136 = .ok (.if_icmp .ne 33, 3) := by decide +kernel
theorem dL_isMovedSo_139 : decode cL_isMovedSo 139 = .ok (.aload_n 0, 1) := by decide +kernel
theorem dL_isMovedSo_140 : decode cL_isMovedSo 140 = .ok (.iload_n 2, 1) := by decide +kernel
theorem dL_isMovedSo_141 : decode cL_isMovedSo 141 = .ok (.invokestatic 87, 3) := by decide +kernel
theorem dL_isMovedSo_144 : decode cL_isMovedSo 144 = .ok (.iload 5, 2) := by decide +kernel
theorem dL_isMovedSo_146 : decode cL_isMovedSo 146 = .ok (.iconst 1, 1) := by decide +kernel
theorem dL_isMovedSo_147 : decode cL_isMovedSo 147 = .ok (.isub, 1) := by decide +kernel
theorem dL_isMovedSo_148 : decode cL_isMovedSo 148 = .ok (.if_icmp .ne 21, 3) := by decide +kernel
theorem dL_isMovedSo_151 : decode cL_isMovedSo 151 = .ok (.aload_n 0, 1) := by decide +kernel
theorem dL_isMovedSo_152 : decode cL_isMovedSo 152 = .ok (.bipush 7, 2) := by decide +kernel
theorem dL_isMovedSo_154 : decode cL_isMovedSo 154 = .ok (.iload_n 2, 1) := by decide +kernel
theorem dL_isMovedSo_155 : decode cL_isMovedSo 155 = .ok (.iload 4, 2) := by decide +kernel
theorem dL_isMovedSo_157 : decode cL_isMovedSo 157 = .ok (.invokestatic 61, 3) := by decide +kernel
theorem dL_isMovedSo_160 : decode cL_isMovedSo 160 = .ok (.iload 5, 2) := by decide +kernel
theorem dL_isMovedSo_162 : decode cL_isMovedSo 162 = .ok (.if_icmp .ne 7, 3) := by decide +kernel
theorem dL_isMovedSo_165 : decode cL_isMovedSo 165 = .ok (.iconst 1, 1) := by decide +kernel
theorem dL_isMovedSo_166 : decode cL_isMovedSo 166 = .ok (.goto 4, 3) := by decide +kernel
theorem dL_isMovedSo_169 : decode cL_isMovedSo 169 = .ok (.iconst 0, 1) := by decide +kernel
theorem dL_isMovedSo_170 : decode cL_isMovedSo 170 = .ok (.istore 8, 2) := by decide +kernel
theorem dL_isMovedSo_172 : decode cL_isMovedSo 172 = .ok (.iload 8, 2) := by decide +kernel
theorem dL_isMovedSo_174 : decode cL_isMovedSo 174 = .ok (.ifCond .eq 45, 3) := by decide +kernel
theorem dL_isMovedSo_177 : decode cL_isMovedSo 177 = .ok (.aload_n 1, 1) := by decide +kernel
theorem dL_isMovedSo_178 : decode cL_isMovedSo 178 = .ok (.bipush 7, 2) := by decide +kernel
theorem dL_isMovedSo_180 : decode cL_isMovedSo 180 = .ok (.iload_n 2, 1) := by decide +kernel
theorem dL_isMovedSo_181 : decode cL_isMovedSo 181 = .ok (.iload 4, 2) := by decide +kernel
theorem dL_isMovedSo_183 : decode cL_isMovedSo 183 = .ok (.invokestatic 61, 3) := by decide +kernel
theorem dL_isMovedSo_186 : decode cL_isMovedSo 186 = .ok (.iload 5, 2) := by decide +kernel
theorem dL_isMovedSo_188 : decode cL_isMovedSo 188 = .ok (.if_icmp .ne 31, 3) := by decide +kernel
theorem dL_isMovedSo_191 : decode cL_isMovedSo 191 = .ok (.aload_n 0, 1) := by decide +kernel
theorem dL_isMovedSo_192 : decode cL_isMovedSo 192 = .ok (.iload_n 2, 1) := by decide +kernel
theorem dL_isMovedSo_193 : decode cL_isMovedSo 193 = .ok (.iload 5, 2) := by decide +kernel
theorem dL_isMovedSo_195 : decode cL_isMovedSo 195 = .ok (.iconst 1, 1) := by decide +kernel
theorem dL_isMovedSo_196 : decode cL_isMovedSo 196 = .ok (.isub, 1) := by decide +kernel
theorem dL_isMovedSo_197 : decode cL_isMovedSo 197 = .ok (.invokevirtual 50, 3) := by decide +kernel
theorem dL_isMovedSo_200 : decode cL_isMovedSo 200 = .ok (.iload 6, 2) := by decide +kernel
theorem dL_isMovedSo_202 : decode cL_isMovedSo 202 = .ok (.if_icmp .ne 17, 3) := by decide +kernel
theorem dL_isMovedSo_205 : decode cL_isMovedSo 205 = .ok (.aload_n 0, 1) := by decide +kernel
theorem dL_isMovedSo_206 : decode cL_isMovedSo 206 = .ok (.iload_n 2, 1) := by decide +kernel
theorem dL_isMovedSo_207 : decode cL_isMovedSo 207 = .ok (.invokestatic 80, 3) := by decide +kernel
theorem dL_isMovedSo_210 : decode cL_isMovedSo 210 = .ok (.iload 4, 2) := by decide +kernel
theorem dL_isMovedSo_212 : decode cL_isMovedSo 212 = .ok (.if_icmp .ne 7, 3) := by decide +kernel
theorem dL_isMovedSo_215 : decode cL_isMovedSo 215 = .ok (.iconst 1, 1) := by decide +kernel
theorem dL_isMovedSo_216 : decode cL_isMovedSo 216 = .ok (.goto 4, 3) := by decide +kernel
theorem dL_isMovedSo_219 : decode cL_isMovedSo 219 = .ok (.iconst 0, 1) := by decide +kernel
theorem dL_isMovedSo_220 : decode cL_isMovedSo 220 = .ok (.ireturn, 1) := by decide +kernel
theorem dL_isSoldSo_0 : decode cL_isSoldSo 0 = .ok (.aload_n 0, 1) := by decide +kernel
theorem dL_isSoldSo_1 : decode cL_isSoldSo 1 = .ok (.iload_n 2, 1) := by decide +kernel
theorem dL_isSoldSo_2 : decode cL_isSoldSo 2 = .ok (.invokevirtual 68, 3) := by decide +kernel
theorem dL_isSoldSo_5 : decode cL_isSoldSo 5 = .ok (.istore 4, 2) := by decide +kernel
theorem dL_isSoldSo_7 : decode cL_isSoldSo 7 = .ok (.aload_n 0, 1) := by decide +kernel
theorem dL_isSoldSo_8 : decode cL_isSoldSo 8 = .ok (.iload_n 2, 1) := by decide +kernel
theorem dL_isSoldSo_9 : decode cL_isSoldSo 9 = .ok (.iload_n 3, 1) := by decide +kernel
theorem dL_isSoldSo_10 : decode cL_isSoldSo 10 = .ok (.invokevirtual 77, 3) := by decide +kernel
theorem dL_isSoldSo_13 : decode cL_isSoldSo 13 = .ok (.istore 5, 2) := by decide +kernel
theorem dL_isSoldSo_15 : decode cL_isSoldSo 15 = .ok (.aload_n 0, 1) := by decide +kernel
theorem dL_isSoldSo_16 : decode cL_isSoldSo 16 = .ok (.iload_n 2, 1) := by decide +kernel
theorem dL_isSoldSo_17 : decode cL_isSoldSo 17 = .ok (.invokestatic 87, 3) := by decide +kernel
theorem dL_isSoldSo_20 : decode cL_isSoldSo 20 = .ok (.istore 6, 2) := by decide +kernel
theorem dL_isSoldSo_22 : decode cL_isSoldSo 22 = .ok (.aload_n 0, 1) := by decide +kernel
theorem dL_isSoldSo_23 : decode cL_isSoldSo 23 = .ok (.iload_n 2, 1) := by decide +kernel
theorem dL_isSoldSo_24 : decode cL_isSoldSo 24 = .ok (.invokestatic 84, 3) := by decide +kernel
theorem dL_isSoldSo_27 : decode cL_isSoldSo 27 = .ok (.istore 7, 2) := by decide +kernel
theorem dL_isSoldSo_29 : decode cL_isSoldSo 29 = .ok (.aload_n 0, 1) := by decide +kernel
theorem dL_isSoldSo_30 : decode cL_isSoldSo 30 = .ok (.iconst 4, 1) := by decide +kernel
theorem dL_isSoldSo_31 : decode cL_isSoldSo 31 = .ok (.iload_n 2, 1) := by decide +kernel
theorem dL_isSoldSo_32 : decode cL_isSoldSo 32 = .ok (.iload_n 3, 1) := by decide +kernel
theorem dL_isSoldSo_33 : decode cL_isSoldSo 33 = .ok (.invokestatic 61, 3) := by decide +kernel
theorem dL_isSoldSo_36 : decode cL_isSoldSo 36 = .ok (.istore 8, 2) := by decide +kernel
theorem dL_isSoldSo_38 : decode cL_isSoldSo 38 = .ok (.aload_n 1, 1) := by decide +kernel
theorem dL_isSoldSo_39 : decode cL_isSoldSo 39 = .ok (.iconst 4, 1) := by decide +kernel
theorem dL_isSoldSo_40 : decode cL_isSoldSo 40 = .ok (.iload_n 2, 1) := by decide +kernel
theorem dL_isSoldSo_41 : decode cL_isSoldSo 41 = .ok (.iload_n 3, 1) := by decide +kernel
theorem dL_isSoldSo_42 : decode cL_isSoldSo 42 = .ok (.invokestatic 61, 3) := by decide +kernel
theorem dL_isSoldSo_45 : decode cL_isSoldSo 45 = .ok (.iload 8, 2) := by decide +kernel
theorem dL_isSoldSo_47 : decode cL_isSoldSo 47 = .ok (.if_icmp .ne 50, 3) := by decide +kernel
theorem dL_isSoldSo_50 : decode cL_isSoldSo 50 = .ok (.iload 8, 2) := by decide +kernel
theorem dL_isSoldSo_52 : decode cL_isSoldSo 52 = .ok (.ldc 43, 2) := by decide +kernel
theorem dL_isSoldSo_54 : decode cL_isSoldSo 54 = .ok (.if_icmp .ne 7, 3) := by decide +kernel
theorem dL_isSoldSo_57 : decode cL_isSoldSo 57 = .ok (.iconst 1, 1) := by decide +kernel
theorem dL_isSoldSo_58 : decode cL_isSoldSo 58 = .ok (.goto 4, 3) := by decide +kernel
theorem dL_isSoldSo_61 : decode cL_isSoldSo 61 = .ok (.iconst 0, 1) := by decide +kernel
theorem dL_isSoldSo_62 : decode cL_isSoldSo 62 = .ok (.iload 5, 2) := by decide +kernel
theorem dL_isSoldSo_64 : decode cL_isSoldSo 64 = .ok (.ifCond .lt 21, 3) := by decide +kernel
theorem dL_isSoldSo_67 : decode cL_isSoldSo 67 = .ok (.iload 4, 2) := by decide +kernel
theorem dL_isSoldSo_69 : decode cL_isSoldSo 69 = .ok (.iload 5, 2) := by decide +kernel
theorem dL_isSoldSo_71 : decode cL_isSoldSo 71 = .ok (.iconst 3, 1) := by decide +kernel
theorem dL_isSoldSo_72 : decode cL_isSoldSo 72 = .ok (.idiv, 1) := by decide +kernel
theorem dL_isSoldSo_73 : decode cL_isSoldSo 73 = .ok (.iconst 1, 1) := by decide +kernel
theorem dL_isSoldSo_74 : decode cL_isSoldSo 74 = .ok (.iadd, 1) := by decide +kernel
theorem dL_isSoldSo_75 : decode cL_isSoldSo 75 = .ok (.if_icmp .lt 10, 3) := by decide +kernel
theorem dL_isSoldSo_78 : decode cL_isSoldSo 78 = .ok (.iload 6, 2) := by decide +kernel
theorem dL_isSoldSo_80 : decode cL_isSoldSo 80 = .ok (.bipush 6, 2) := by decide +kernel
theorem dL_isSoldSo_82 : decode cL_isSoldSo 82 = .ok (.if_icmp .ne 7, 3) := by decide +kernel
theorem dL_isSoldSo_85 : decode cL_isSoldSo 85 = .ok (.iconst 1, 1) := by decide +kernel
theorem dL_isSoldSo_86 : decode cL_isSoldSo 86 = .ok (.goto 4, 3) := by decide +kernel
theorem dL_isSoldSo_89 : decode cL_isSoldSo 89 = .ok (.iconst 0, 1) := by decide +kernel
theorem dL_isSoldSo_90 : decode cL_isSoldSo 90 = .ok (.if_icmp .ne 7, 3) := by decide +kernel
theorem dL_isSoldSo_93 : decode cL_isSoldSo 93 = .ok (.iconst 1, 1) := by decide +kernel
theorem dL_isSoldSo_94 : decode cL_isSoldSo 94 = .ok (.goto 4, 3) := by decide +kernel
theorem dL_isSoldSo_97 : decode cL_isSoldSo 97 = .ok (.iconst 0, 1) := by decide +kernel
theorem dL_isSoldSo_98 : decode cL_isSoldSo 98 = .ok (.istore 9, 2) := by decide +kernel
theorem dL_isSoldSo_100 : decode cL_isSoldSo 100 = .ok (.iload 8, 2) := by decide +kernel
theorem dL_isSoldSo_102 : decode cL_isSoldSo 102 = .ok (.ldc 43, 2) := by decide +kernel
theorem dL_isSoldSo_104 : decode cL_isSoldSo 104 = .ok (.if_icmp .ne 35, 3) := by decide +kernel
theorem dL_isSoldSo_107 : decode cL_isSoldSo 107 = .ok (.iload 9, 2) := by decide +kernel
theorem dL_isSoldSo_109 : decode cL_isSoldSo 109 = .ok (.ifCond .eq 28, 3) := by decide +kernel
theorem dL_isSoldSo_112 : decode cL_isSoldSo 112 = .ok (.aload_n 0, 1) := by decide +kernel
theorem dL_isSoldSo_113 : decode cL_isSoldSo 113 = .ok (.iload_n 2, 1) := by decide +kernel
theorem dL_isSoldSo_114 : decode cL_isSoldSo 114 = .ok (.invokevirtual 68, 3) := by decide +kernel
theorem dL_isSoldSo_117 : decode cL_isSoldSo 117 = .ok (.iload 4, 2) := by decide +kernel
theorem dL_isSoldSo_119 : decode cL_isSoldSo 119 = .ok (.if_icmp .ne 18, 3) := by decide +kernel
theorem dL_isSoldSo_122 : decode cL_isSoldSo 122 = .ok (.aload_n 0, 1) := by decide +kernel
theorem dL_isSoldSo_123 : decode cL_isSoldSo 123 = .ok (.iload_n 2, 1) := by decide +kernel
theorem dL_isSoldSo_124 : decode cL_isSoldSo 124 = .ok (.iload_n 3, 1) := by decide +kernel
theorem dL_isSoldSo_125 : decode cL_isSoldSo 125 = .ok (.invokevirtual 77, 3) := by decide +kernel
theorem dL_isSoldSo_128 : decode cL_isSoldSo 128 = .ok (.iload 5, 2) := by decide +kernel
theorem dL_isSoldSo_130 : decode cL_isSoldSo 130 = .ok (.if_icmp .ne 7, 3) := by decide +kernel
theorem dL_isSoldSo_133 : decode cL_isSoldSo 133 = .ok (.iconst 1, 1) := by decide +kernel
theorem dL_isSoldSo_134 : decode cL_isSoldSo 134 = .ok (.goto 4, 3) := by decide +kernel
theorem dL_isSoldSo_137 : decode cL_isSoldSo 137 = .ok (.iconst 0, 1) := by decide +kernel
theorem dL_isSoldSo_138 : decode cL_isSoldSo 138 = .ok (.ireturn, 1) := by decide +kernel
theorem dL_isSoldSo_139 : decode cL_isSoldSo 139 = .ok (.iload 9, 2) := by decide +kernel
theorem dL_isSoldSo_141 : decode cL_isSoldSo 141 = .ok (.ifCond .eq 31, 3) := by decide +kernel
theorem dL_isSoldSo_144 : decode cL_isSoldSo 144 = .ok (.iload 8, 2) := by decide +kernel
theorem dL_isSoldSo_146 : decode cL_isSoldSo 146 = .ok (.iload 4, 2) := by decide +kernel
theorem dL_isSoldSo_148 : decode cL_isSoldSo 148 = .ok (.iload 5, 2) := by decide +kernel
theorem dL_isSoldSo_150 : decode cL_isSoldSo 150 = .ok (.iconst 3, 1) := by decide +kernel
theorem dL_isSoldSo_151 : decode cL_isSoldSo 151 = .ok (.idiv, 1) := by decide +kernel
theorem dL_isSoldSo_152 : decode cL_isSoldSo 152 = .ok (.isub, 1) := by decide +kernel
theorem dL_isSoldSo_153 : decode cL_isSoldSo 153 = .ok (.iconst 1, 1) := by decide +kernel
theorem dL_isSoldSo_154 : decode cL_isSoldSo 154 = .ok (.isub, 1) := by decide +kernel
theorem dL_isSoldSo_155 : decode cL_isSoldSo 155 = .ok (.if_icmp .ne 17, 3) := by decide +kernel
theorem dL_isSoldSo_158 : decode cL_isSoldSo 158 = .ok (.aload_n 0, 1) := by decide +kernel
theorem dL_isSoldSo_159 : decode cL_isSoldSo 159 = .ok (.iload_n 2, 1) := by decide +kernel
theorem dL_isSoldSo_160 : decode cL_isSoldSo 160 = .ok (.iload_n 3, 1) := by decide +kernel
theorem dL_isSoldSo_161 : decode cL_isSoldSo 161 = .ok (.invokevirtual 77, 3) := by decide +kernel
theorem dL_isSoldSo_164 : decode cL_isSoldSo 164 = .ok (.iconst (-1), 1) := by decide +kernel
theorem dL_isSoldSo_165 : decode cL_isSoldSo 165 = .ok (.if_icmp .ne 7, 3) := by decide +kernel
theorem dL_isSoldSo_168 : decode cL_isSoldSo 168 = .ok (.iconst 1, 1) := by decide +kernel
theorem dL_isSoldSo_169 : decode cL_isSoldSo 169 = .ok (.goto 4, 3) := by decide +kernel
theorem dL_isSoldSo_172 : decode cL_isSoldSo 172 = .ok (.iconst 0, 1) := by decide +kernel
theorem dL_isSoldSo_173 : decode cL_isSoldSo 173 = .ok (.istore 9, 2) := by decide +kernel
theorem dL_isSoldSo_175 : decode cL_isSoldSo 175 = .ok (.aload_n 0, 1) := by decide +kernel
theorem dL_isSoldSo_176 : decode cL_isSoldSo 176 = .ok (.iload_n 2, 1) := by decide +kernel
theorem dL_isSoldSo_177 : decode cL_isSoldSo 177 = .ok (.invokestatic 84, 3) := by decide +kernel
theorem dL_isSoldSo_180 : decode cL_isSoldSo 180 = .ok (.iload 7, 2) := by decide +kernel
theorem dL_isSoldSo_182 : decode cL_isSoldSo 182 = .ok (.iconst 1, 1) := by decide +kernel
theorem dL_isSoldSo_183 : decode cL_isSoldSo 183 = .ok (.iadd, 1) := by decide +kernel
theorem dL_isSoldSo_184 : decode cL_isSoldSo 184 = .ok (.if_icmp .eq 29, 3) := by decide +kernel
theorem dL_isSoldSo_187 : decode cL_isSoldSo 187 = .ok (.iload 9, 2) := by decide +kernel
theorem dL_isSoldSo_189 : decode cL_isSoldSo 189 = .ok (.ifCond .eq 22, 3) := by decide +kernel
theorem dL_isSoldSo_192 : decode cL_isSoldSo 192 = .ok (.iload 7, 2) := by decide +kernel
theorem dL_isSoldSo_194 : decode cL_isSoldSo 194 = .ok (.iconst 1, 1) := by decide +kernel
theorem dL_isSoldSo_195 : decode cL_isSoldSo 195 = .ok (.iadd, 1) := by decide +kernel
theorem dL_isSoldSo_196 : decode cL_isSoldSo 196 = .ok (.aload_n 0, 1) := by decide +kernel
theorem dL_isSoldSo_197 : decode cL_isSoldSo 197 = .ok (.iload_n 2, 1) := by decide +kernel
theorem dL_isSoldSo_198 : decode cL_isSoldSo 198 = .ok (.invokestatic 84, 3) := by decide +kernel
theorem dL_isSoldSo_201 : decode cL_isSoldSo 201 = .ok (.isub, 1) := by decide +kernel
theorem dL_isSoldSo_202 : decode cL_isSoldSo 202 = .ok (.iconst 2, 1) := by decide +kernel
theorem dL_isSoldSo_203 : decode cL_isSoldSo 203 = .ok (.irem, 1) := by decide +kernel
theorem dL_isSoldSo_204 : decode cL_isSoldSo 204 = .ok (.ifCond .ne 7, 3) := by decide +kernel
theorem dL_isSoldSo_207 : decode cL_isSoldSo 207 = .ok (.iconst 1, 1) := by decide +kernel
theorem dL_isSoldSo_208 : decode cL_isSoldSo 208 = .ok (.goto 4, 3) := by decide +kernel
theorem dL_isSoldSo_211 : decode cL_isSoldSo 211 = .ok (.iconst 0, 1) := by decide +kernel
theorem dL_isSoldSo_212 : decode cL_isSoldSo 212 = .ok (.ireturn, 1) := by decide +kernel
theorem dL_isSoldSo_213 : decode cL_isSoldSo 213 = .ok (.aload_n 0, 1) := by decide +kernel
theorem dL_isSoldSo_214 : decode cL_isSoldSo 214 = .ok (.iload 5, 2) := by decide +kernel
theorem dL_isSoldSo_216 : decode cL_isSoldSo 216 = .ok (.invokevirtual 90, 3) := by decide +kernel
theorem dL_isSoldSo_219 : decode cL_isSoldSo 219 = .ok (.istore 10, 2) := by decide +kernel
theorem dL_isSoldSo_221 : decode cL_isSoldSo 221 = .ok (.iload 9, 2) := by decide +kernel
theorem dL_isSoldSo_223 : decode cL_isSoldSo 223 = .ok (.ifCond .eq 37, 3) := by decide +kernel
theorem dL_isSoldSo_226 : decode cL_isSoldSo 226 = .ok (.aload_n 0, 1) := by decide +kernel
theorem dL_isSoldSo_227 : decode cL_isSoldSo 227 = .ok (.iload_n 2, 1) := by decide +kernel
theorem dL_isSoldSo_228 : decode cL_isSoldSo 228 = .ok (.iload 6, 2) := by decide +kernel
theorem dL_isSoldSo_230 : decode cL_isSoldSo 230 = .ok (.invokevirtual 50, 3) := by decide +kernel
theorem dL_isSoldSo_233 : decode cL_isSoldSo 233 = .ok (.bipush 10, 2) := by decide +kernel
theorem dL_isSoldSo_235 : decode cL_isSoldSo 235 = .ok (.iload 5, 2) := by decide +kernel
theorem dL_isSoldSo_237 : decode cL_isSoldSo 237 = .ok (.imul, 1) := by decide +kernel
theorem dL_isSoldSo_238 : decode cL_isSoldSo 238 = .ok (.iconst 1, 1) := by decide +kernel
theorem dL_isSoldSo_239 : decode cL_isSoldSo 239 = .ok (.iadd, 1) := by decide +kernel
theorem dL_isSoldSo_240 : decode cL_isSoldSo 240 = .ok (.if_icmp .ne 20, 3) := by decide +kernel
theorem dL_isSoldSo_243 : decode cL_isSoldSo 243 = .ok (.aload_n 0, 1) := by decide +kernel
theorem dL_isSoldSo_244 : decode cL_isSoldSo 244 = .ok (.iconst 5, 1) := by decide +kernel
theorem dL_isSoldSo_245 : decode cL_isSoldSo 245 = .ok (.iload_n 2, 1) := by decide +kernel
theorem dL_isSoldSo_246 : decode cL_isSoldSo 246 = .ok (.iload 6, 2) := by decide +kernel
theorem dL_isSoldSo_248 : decode cL_isSoldSo 248 = .ok (.invokestatic 61, 3) := by decide +kernel
theorem dL_isSoldSo_251 : decode cL_isSoldSo 251 = .ok (.iload 4, 2) := by decide +kernel
theorem dL_isSoldSo_253 : decode cL_isSoldSo 253 = .ok (.if_icmp .ne 7, 3) := by decide +kernel
theorem dL_isSoldSo_256 : decode cL_isSoldSo 256 = .ok (.iconst 1, 1) := by decide +kernel
theorem dL_isSoldSo_257 : decode cL_isSoldSo 257 = .ok (.goto 4, 3) := by decide +kernel
theorem dL_isSoldSo_260 : decode cL_isSoldSo 260 = .ok (.iconst 0, 1) := by decide +kernel
theorem dL_isSoldSo_261 : decode cL_isSoldSo 261 = .ok (.istore 9, 2) := by decide +kernel
theorem dL_isSoldSo_263 : decode cL_isSoldSo 263 = .ok (.iload 9, 2) := by decide +kernel
theorem dL_isSoldSo_265 : decode cL_isSoldSo 265 = .ok (.ifCond .eq 43, 3) := by decide +kernel
theorem dL_isSoldSo_268 : decode cL_isSoldSo 268 = .ok (.aload_n 1, 1) := by decide +kernel
theorem dL_isSoldSo_269 : decode cL_isSoldSo 269 = .ok (.iconst 5, 1) := by decide +kernel
theorem dL_isSoldSo_270 : decode cL_isSoldSo 270 = .ok (.iload_n 2, 1) := by decide +kernel
theorem dL_isSoldSo_271 : decode cL_isSoldSo 271 = .ok (.iload 6, 2) := by decide +kernel
theorem dL_isSoldSo_273 : decode cL_isSoldSo 273 = .ok (.invokestatic 61, 3) := by decide +kernel
theorem dL_isSoldSo_276 : decode cL_isSoldSo 276 = .ok (.iload 4, 2) := by decide +kernel
theorem dL_isSoldSo_278 : decode cL_isSoldSo 278 = .ok (.if_icmp .ne 30, 3) := by decide +kernel
theorem dL_isSoldSo_281 : decode cL_isSoldSo 281 = .ok (.aload_n 0, 1) := by decide +kernel
theorem dL_isSoldSo_282 : decode cL_isSoldSo 282 = .ok (.iload 5, 2) := by decide +kernel
theorem dL_isSoldSo_284 : decode cL_isSoldSo 284 = .ok (.invokevirtual 90, 3) := by decide +kernel
theorem dL_isSoldSo_287 : decode cL_isSoldSo 287 = .ok (.iload 10, 2) := by decide +kernel
theorem dL_isSoldSo_289 : decode cL_isSoldSo 289 = .ok (.iconst 1, 1) := by decide +kernel
theorem dL_isSoldSo_290 : decode cL_isSoldSo 290 = .ok (.iadd, 1) := by decide +kernel
theorem dL_isSoldSo_291 : decode cL_isSoldSo 291 = .ok (.if_icmp .ne 17, 3) := by decide +kernel
theorem dL_isSoldSo_294 : decode cL_isSoldSo 294 = .ok (.aload_n 0, 1) := by decide +kernel
theorem dL_isSoldSo_295 : decode cL_isSoldSo 295 = .ok (.iload_n 2, 1) := by decide +kernel
theorem dL_isSoldSo_296 : decode cL_isSoldSo 296 = .ok (.invokestatic 87, 3) := by decide +kernel
theorem dL_isSoldSo_299 : decode cL_isSoldSo 299 = .ok (.iload 6, 2) := by decide +kernel
theorem dL_isSoldSo_301 : decode cL_isSoldSo 301 = .ok (.if_icmp .ne 7, 3) := by decide +kernel
theorem dL_isSoldSo_304 : decode cL_isSoldSo 304 = .ok (.iconst 1, 1) := by decide +kernel
theorem dL_isSoldSo_305 : decode cL_isSoldSo 305 = .ok (.goto 4, 3) := by decide +kernel
theorem dL_isSoldSo_308 : decode cL_isSoldSo 308 = .ok (.iconst 0, 1) := by decide +kernel
theorem dL_isSoldSo_309 : decode cL_isSoldSo 309 = .ok (.ireturn, 1) := by decide +kernel
theorem dL_law_0 : decode cL_law 0 = .ok (.new 9, 3) := by decide +kernel
theorem dL_law_3 : decode cL_law 3 = .ok (.dup, 1) := by decide +kernel
theorem dL_law_4 : decode cL_law 4 = .ok (.invokespecial 105, 3) := by decide +kernel
theorem dL_law_7 : decode cL_law 7 = .ok (.astore_n 1, 1) := by decide +kernel
theorem dL_law_8 : decode cL_law 8 = .ok (.new 9, 3) := by decide +kernel
theorem dL_law_11 : decode cL_law 11 = .ok (.dup, 1) := by decide +kernel
theorem dL_law_12 : decode cL_law 12 = .ok (.invokespecial 105, 3) := by decide +kernel
theorem dL_law_15 : decode cL_law 15 = .ok (.astore_n 2, 1) := by decide +kernel
theorem dL_law_16 : decode cL_law 16 = .ok (.iconst 1, 1) := by decide +kernel
theorem dL_law_17 : decode cL_law 17 = .ok (.istore_n 3, 1) := by decide +kernel
theorem dL_law_18 : decode cL_law 18 = .ok (.iconst 0, 1) := by decide +kernel
theorem dL_law_19 : decode cL_law 19 = .ok (.istore 4, 2) := by decide +kernel
theorem dL_law_21 : decode cL_law 21 = .ok (.iload 4, 2) := by decide +kernel
theorem dL_law_23 : decode cL_law 23 = .ok (.bipush 110, 2) := by decide +kernel
theorem dL_law_25 : decode cL_law 25 = .ok (.if_icmp .ge 233, 3) := by decide +kernel
theorem dL_law_28 : decode cL_law 28 = .ok (.iload_n 3, 1) := by decide +kernel
theorem dL_law_29 : decode cL_law 29 = .ok (.ifCond .eq 229, 3) := by decide +kernel
theorem dL_law_32 : decode cL_law 32 = .ok (.aload_n 0, 1) := by decide +kernel
theorem dL_law_33 : decode cL_law 33 = .ok (.iload 4, 2) := by decide +kernel
theorem dL_law_35 : decode cL_law 35 = .ok (.bipush 61, 2) := by decide +kernel
theorem dL_law_37 : decode cL_law 37 = .ok (.irem, 1) := by decide +kernel
theorem dL_law_38 : decode cL_law 38 = .ok (.invokestatic 106, 3) := by decide +kernel
theorem dL_law_41 : decode cL_law 41 = .ok (.sipush 1301, 3) := by decide +kernel
theorem dL_law_44 : decode cL_law 44 = .ok (.iload 4, 2) := by decide +kernel
theorem dL_law_46 : decode cL_law 46 = .ok (.bipush 61, 2) := by decide +kernel
theorem dL_law_48 : decode cL_law 48 = .ok (.idiv, 1) := by decide +kernel
theorem dL_law_49 : decode cL_law 49 = .ok (.imul, 1) := by decide +kernel
theorem dL_law_50 : decode cL_law 50 = .ok (.iadd, 1) := by decide +kernel
theorem dL_law_51 : decode cL_law 51 = .ok (.istore 5, 2) := by decide +kernel
theorem dL_law_53 : decode cL_law 53 = .ok (.aload_n 1, 1) := by decide +kernel
theorem dL_law_54 : decode cL_law 54 = .ok (.iload 5, 2) := by decide +kernel
theorem dL_law_56 : decode cL_law 56 = .ok (.invokestatic 110, 3) := by decide +kernel
theorem dL_law_59 : decode cL_law 59 = .ok (.istore 6, 2) := by decide +kernel
theorem dL_law_61 : decode cL_law 61 = .ok (.iload 6, 2) := by decide +kernel
theorem dL_law_63 : decode cL_law 63 = .ok (.ldc 43, 2) := by decide +kernel
theorem dL_law_65 : decode cL_law 65 = .ok (.if_icmp .eq 14, 3) := by decide +kernel
theorem dL_law_68 : decode cL_law 68 = .ok (.aload_n 2, 1) := by decide +kernel
theorem dL_law_69 : decode cL_law 69 = .ok (.iload 5, 2) := by decide +kernel
theorem dL_law_71 : decode cL_law 71 = .ok (.invokestatic 110, 3) := by decide +kernel
theorem dL_law_74 : decode cL_law 74 = .ok (.iload 6, 2) := by decide +kernel
theorem dL_law_76 : decode cL_law 76 = .ok (.if_icmp .ne 38, 3) := by decide +kernel
theorem dL_law_79 : decode cL_law 79 = .ok (.iload 4, 2) := by decide +kernel
theorem dL_law_81 : decode cL_law 81 = .ok (.bipush 6, 2) := by decide +kernel
theorem dL_law_83 : decode cL_law 83 = .ok (.irem, 1) := by decide +kernel
theorem dL_law_84 : decode cL_law 84 = .ok (.iconst 3, 1) := by decide +kernel
theorem dL_law_85 : decode cL_law 85 = .ok (.if_icmp .ne 11, 3) := by decide +kernel
theorem dL_law_88 : decode cL_law 88 = .ok (.aload_n 1, 1) := by decide +kernel
theorem dL_law_89 : decode cL_law 89 = .ok (.aload_n 2, 1) := by decide +kernel
theorem dL_law_90 : decode cL_law 90 = .ok (.invokestatic 113, 3) := by decide +kernel
theorem dL_law_93 : decode cL_law 93 = .ok (.ifCond .eq 21, 3) := by decide +kernel
theorem dL_law_96 : decode cL_law 96 = .ok (.aload_n 1, 1) := by decide +kernel
theorem dL_law_97 : decode cL_law 97 = .ok (.iload 5, 2) := by decide +kernel
theorem dL_law_99 : decode cL_law 99 = .ok (.bipush 7, 2) := by decide +kernel
theorem dL_law_101 : decode cL_law 101 = .ok (.ishr, 1) := by decide +kernel
theorem dL_law_102 : decode cL_law 102 = .ok (.iconst 3, 1) := by decide +kernel
theorem dL_law_103 : decode cL_law 103 = .ok (.iand, 1) := by decide +kernel
theorem dL_law_104 : decode cL_law 104 = .ok (.invokestatic 117, 3) := by decide +kernel
theorem dL_law_107 : decode cL_law 107 = .ok (.ifCond .eq 7, 3) := by decide +kernel
theorem dL_law_110 : decode cL_law 110 = .ok (.iconst 1, 1) := by decide +kernel
theorem dL_law_111 : decode cL_law 111 = .ok (.goto 4, 3) := by decide +kernel
theorem dL_law_114 : decode cL_law 114 = .ok (.iconst 0, 1) := by decide +kernel
theorem dL_law_115 : decode cL_law 115 = .ok (.istore_n 3, 1) := by decide +kernel
theorem dL_law_116 : decode cL_law 116 = .ok (.iload 4, 2) := by decide +kernel
theorem dL_law_118 : decode cL_law 118 = .ok (.iconst 4, 1) := by decide +kernel
theorem dL_law_119 : decode cL_law 119 = .ok (.irem, 1) := by decide +kernel
theorem dL_law_120 : decode cL_law 120 = .ok (.iconst 1, 1) := by decide +kernel
theorem dL_law_121 : decode cL_law 121 = .ok (.if_icmp .ne 46, 3) := by decide +kernel
theorem dL_law_124 : decode cL_law 124 = .ok (.iload_n 3, 1) := by decide +kernel
theorem dL_law_125 : decode cL_law 125 = .ok (.ifCond .eq 40, 3) := by decide +kernel
theorem dL_law_128 : decode cL_law 128 = .ok (.aload_n 1, 1) := by decide +kernel
theorem dL_law_129 : decode cL_law 129 = .ok (.iload 5, 2) := by decide +kernel
theorem dL_law_131 : decode cL_law 131 = .ok (.iconst 5, 1) := by decide +kernel
theorem dL_law_132 : decode cL_law 132 = .ok (.ishr, 1) := by decide +kernel
theorem dL_law_133 : decode cL_law 133 = .ok (.iconst 3, 1) := by decide +kernel
theorem dL_law_134 : decode cL_law 134 = .ok (.iand, 1) := by decide +kernel
theorem dL_law_135 : decode cL_law 135 = .ok (.iload 5, 2) := by decide +kernel
theorem dL_law_137 : decode cL_law 137 = .ok (.iconst 5, 1) := by decide +kernel
theorem dL_law_138 : decode cL_law 138 = .ok (.ishr, 1) := by decide +kernel
theorem dL_law_139 : decode cL_law 139 = .ok (.iconst 3, 1) := by decide +kernel
theorem dL_law_140 : decode cL_law 140 = .ok (.iand, 1) := by decide +kernel
theorem dL_law_141 : decode cL_law 141 = .ok (.iconst 1, 1) := by decide +kernel
theorem dL_law_142 : decode cL_law 142 = .ok (.iadd, 1) := by decide +kernel
theorem dL_law_143 : decode cL_law 143 = .ok (.iload 5, 2) := by decide +kernel
theorem dL_law_145 : decode cL_law 145 = .ok (.bipush 8, 2) := by decide +kernel
theorem dL_law_147 : decode cL_law 147 = .ok (.ishr, 1) := by decide +kernel
theorem dL_law_148 : decode cL_law 148 = .ok (.iconst 3, 1) := by decide +kernel
theorem dL_law_149 : decode cL_law 149 = .ok (.invokestatic 56, 3) := by decide +kernel
theorem dL_law_152 : decode cL_law 152 = .ok (.iadd, 1) := by decide +kernel
theorem dL_law_153 : decode cL_law 153 = .ok (.iconst 4, 1) := by decide +kernel
theorem dL_law_154 : decode cL_law 154 = .ok (.irem, 1) := by decide +kernel
theorem dL_law_155 : decode cL_law 155 = .ok (.invokestatic 121, 3) := by decide +kernel
theorem dL_law_158 : decode cL_law 158 = .ok (.ifCond .eq 7, 3) := by decide +kernel
theorem dL_law_161 : decode cL_law 161 = .ok (.iconst 1, 1) := by decide +kernel
theorem dL_law_162 : decode cL_law 162 = .ok (.goto 4, 3) := by decide +kernel
theorem dL_law_165 : decode cL_law 165 = .ok (.iconst 0, 1) := by decide +kernel
theorem dL_law_166 : decode cL_law 166 = .ok (.istore_n 3, 1) := by decide +kernel
theorem dL_law_167 : decode cL_law 167 = .ok (.iload 4, 2) := by decide +kernel
theorem dL_law_169 : decode cL_law 169 = .ok (.iconst 5, 1) := by decide +kernel
theorem dL_law_170 : decode cL_law 170 = .ok (.irem, 1) := by decide +kernel
theorem dL_law_171 : decode cL_law 171 = .ok (.iconst 2, 1) := by decide +kernel
theorem dL_law_172 : decode cL_law 172 = .ok (.if_icmp .ne 37, 3) := by decide +kernel
theorem dL_law_175 : decode cL_law 175 = .ok (.iload_n 3, 1) := by decide +kernel
theorem dL_law_176 : decode cL_law 176 = .ok (.ifCond .eq 31, 3) := by decide +kernel
theorem dL_law_179 : decode cL_law 179 = .ok (.aload_n 1, 1) := by decide +kernel
theorem dL_law_180 : decode cL_law 180 = .ok (.aload_n 2, 1) := by decide +kernel
theorem dL_law_181 : decode cL_law 181 = .ok (.iload 5, 2) := by decide +kernel
theorem dL_law_183 : decode cL_law 183 = .ok (.bipush 6, 2) := by decide +kernel
theorem dL_law_185 : decode cL_law 185 = .ok (.ishr, 1) := by decide +kernel
theorem dL_law_186 : decode cL_law 186 = .ok (.iconst 3, 1) := by decide +kernel
theorem dL_law_187 : decode cL_law 187 = .ok (.iand, 1) := by decide +kernel
theorem dL_law_188 : decode cL_law 188 = .ok (.iload 5, 2) := by decide +kernel
theorem dL_law_190 : decode cL_law 190 = .ok (.bipush 9, 2) := by decide +kernel
theorem dL_law_192 : decode cL_law 192 = .ok (.ishr, 1) := by decide +kernel
theorem dL_law_193 : decode cL_law 193 = .ok (.iconst 4, 1) := by decide +kernel
theorem dL_law_194 : decode cL_law 194 = .ok (.invokestatic 56, 3) := by decide +kernel
theorem dL_law_197 : decode cL_law 197 = .ok (.invokestatic 125, 3) := by decide +kernel
theorem dL_law_200 : decode cL_law 200 = .ok (.ifCond .eq 7, 3) := by decide +kernel
theorem dL_law_203 : decode cL_law 203 = .ok (.iconst 1, 1) := by decide +kernel
theorem dL_law_204 : decode cL_law 204 = .ok (.goto 4, 3) := by decide +kernel
theorem dL_law_207 : decode cL_law 207 = .ok (.iconst 0, 1) := by decide +kernel
theorem dL_law_208 : decode cL_law 208 = .ok (.istore_n 3, 1) := by decide +kernel
theorem dL_law_209 : decode cL_law 209 = .ok (.iload 4, 2) := by decide +kernel
theorem dL_law_211 : decode cL_law 211 = .ok (.bipush 7, 2) := by decide +kernel
theorem dL_law_213 : decode cL_law 213 = .ok (.irem, 1) := by decide +kernel
theorem dL_law_214 : decode cL_law 214 = .ok (.iconst 4, 1) := by decide +kernel
theorem dL_law_215 : decode cL_law 215 = .ok (.if_icmp .ne 37, 3) := by decide +kernel
theorem dL_law_218 : decode cL_law 218 = .ok (.iload_n 3, 1) := by decide +kernel
theorem dL_law_219 : decode cL_law 219 = .ok (.ifCond .eq 31, 3) := by decide +kernel
theorem dL_law_222 : decode cL_law 222 = .ok (.aload_n 1, 1) := by decide +kernel
theorem dL_law_223 : decode cL_law 223 = .ok (.aload_n 2, 1) := by decide +kernel
theorem dL_law_224 : decode cL_law 224 = .ok (.iload 5, 2) := by decide +kernel
theorem dL_law_226 : decode cL_law 226 = .ok (.bipush 6, 2) := by decide +kernel
theorem dL_law_228 : decode cL_law 228 = .ok (.ishr, 1) := by decide +kernel
theorem dL_law_229 : decode cL_law 229 = .ok (.iconst 3, 1) := by decide +kernel
theorem dL_law_230 : decode cL_law 230 = .ok (.iand, 1) := by decide +kernel
theorem dL_law_231 : decode cL_law 231 = .ok (.iload 5, 2) := by decide +kernel
theorem dL_law_233 : decode cL_law 233 = .ok (.bipush 9, 2) := by decide +kernel
theorem dL_law_235 : decode cL_law 235 = .ok (.ishr, 1) := by decide +kernel
theorem dL_law_236 : decode cL_law 236 = .ok (.iconst 3, 1) := by decide +kernel
theorem dL_law_237 : decode cL_law 237 = .ok (.invokestatic 56, 3) := by decide +kernel
theorem dL_law_240 : decode cL_law 240 = .ok (.invokestatic 129, 3) := by decide +kernel
theorem dL_law_243 : decode cL_law 243 = .ok (.ifCond .eq 7, 3) := by decide +kernel
theorem dL_law_246 : decode cL_law 246 = .ok (.iconst 1, 1) := by decide +kernel
theorem dL_law_247 : decode cL_law 247 = .ok (.goto 4, 3) := by decide +kernel
theorem dL_law_250 : decode cL_law 250 = .ok (.iconst 0, 1) := by decide +kernel
theorem dL_law_251 : decode cL_law 251 = .ok (.istore_n 3, 1) := by decide +kernel
theorem dL_law_252 : decode cL_law 252 = .ok (.iinc 4 1, 3) := by decide +kernel
theorem dL_law_255 : decode cL_law 255 = .ok (.goto (-234), 3) := by decide +kernel
theorem dL_law_258 : decode cL_law 258 = .ok (.iload_n 3, 1) := by decide +kernel
theorem dL_law_259 : decode cL_law 259 = .ok (.ifCond .eq 24, 3) := by decide +kernel
theorem dL_law_262 : decode cL_law 262 = .ok (.aload_n 1, 1) := by decide +kernel
theorem dL_law_263 : decode cL_law 263 = .ok (.aload_n 2, 1) := by decide +kernel
theorem dL_law_264 : decode cL_law 264 = .ok (.invokestatic 113, 3) := by decide +kernel
theorem dL_law_267 : decode cL_law 267 = .ok (.ifCond .eq 16, 3) := by decide +kernel
theorem dL_law_270 : decode cL_law 270 = .ok (.aload_n 1, 1) := by decide +kernel
theorem dL_law_271 : decode cL_law 271 = .ok (.iconst 0, 1) := by decide +kernel
theorem dL_law_272 : decode cL_law 272 = .ok (.iconst 1, 1) := by decide +kernel
theorem dL_law_273 : decode cL_law 273 = .ok (.invokestatic 121, 3) := by decide +kernel
theorem dL_law_276 : decode cL_law 276 = .ok (.ifCond .eq 7, 3) := by decide +kernel
theorem dL_law_279 : decode cL_law 279 = .ok (.iconst 1, 1) := by decide +kernel
theorem dL_law_280 : decode cL_law 280 = .ok (.goto 4, 3) := by decide +kernel
theorem dL_law_283 : decode cL_law 283 = .ok (.iconst 0, 1) := by decide +kernel
theorem dL_law_284 : decode cL_law 284 = .ok (.ireturn, 1) := by decide +kernel
abbrev vwCl : List vw_C := [(RX0, TX0, 5), (RX1, TX1, 3), (RX2, TX2, 8), (RX3, TX3, 1), (RX4, TX4, 4), (RX5, TX5, 3), (RX6, TX6, 5)]
