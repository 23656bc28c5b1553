/-! ===== BEGIN words of one list among another's, by their places ===== -/
/-! ===== END ===== -/

/-! ===== BEGIN exceptions that leave a method, and their catching by the caller (launches without stack traces) ===== -/
section VXA
/-! The laws vx_back, vx_callV, vx_callS, vx_callSW, vx_throw0, vx_throwS follow proofs of the library, with one case more: JvmDerived/Free/Laws.lean (Back.of_free), Shelf42/LK1.lean (callV, callS), Shelf/KitTraced.lean (throwNew0V, throwNewS). -/
/-- where a method has thrown q: the class by its name, the cell, what was written, the world -/
def vx_T (XC : String → State → State → Prop) (st : State) (q : Addr) (t : State) (mc ms : Nat) (free : Addr → Prop) : Prop :=
  ∃ (E : String) (ce : Cell) (L : List Loc), XC E st t ∧ t.heap[q]? = some ce ∧ ce.vm = .none ∧ st.vm.findClass E = some ce.cls ∧ st.WarmedH t.vm ∧ st.sameButNew ({ t with vm := st.vm } : State) L mc ms ∧ ∀ z ∈ L, free z.base
def vx_Q (Qc : Array Value → State → Outcome → State → Prop) (XC : String → State → State → Prop) (mc ms : Nat) (free : Addr → Prop) : Array Value → State → Outcome → State → Prop := fun a st o t =>
  (Qc a st o t ∧ ∃ L, FrameEnd st o t L mc ms ∧ ∀ q ∈ L, free q.base) ∨ ∃ q, o = .threw q ∧ vx_T XC st q t mc ms free
/-- a callee that returns or throws -/
def vx_Met (l : Launch) (y : MethodName) (ws : List Cond) (rm : Room) (Pc : Array Value → State → Prop) (Qc : Array Value → State → Outcome → State → Prop) (XC : String → State → State → Prop) (mc ms : Nat) (free : Addr → Prop) : Prop :=
  MetFree l y (headSpec ws rm) Pc (fun _ _ _ _ _ => True) (vx_Q Qc XC mc ms free)
def vx_Post (XC : String → State → State → Prop) (mc ms : Nat) (free : Addr → Prop) : Pt → Array Value → Addr → Pt → Prop := fun A a q B =>
  ∃ (g : JFrame) (mk : MethodId) (t : State) (L : List Loc) (E : String) (ce : Cell), B.U.heap = t.heap ∧ B.U.vm = t.vm ∧ XC E (A.U.calling g mk a) t ∧ t.heap[q]? = some ce ∧ ce.vm = .none ∧ A.U.vm.findClass E = some ce.cls ∧ B.locs = A.locs ++ L ∧ (∀ z ∈ L, free z.base) ∧ B.cells = A.cells + mc ∧ B.slots = A.slots + ms
def vx_Back (l : Launch) (R : Room) (p : Program) (e : Env) (below : List Frame) (s : State) (sargs : Array Value) (y : MethodName) (len W9 : Nat)
    (Pre : Pt → Array Value → Prop) (Post : Pt → Array Value → Option Value → Pt → Prop) (PostX : Pt → Array Value → Addr → Pt → Prop) : Prop :=
  ∀ (m : MethodId) (meth : Method) (c : Code) (A : Pt) (g : JFrame) (ig : Instr) (mk : MethodId) (a : Array Value),
    Stand p l e R s m sargs below meth c A.U A.locs A.cells A.slots → g.method = m → g.locals.size = c.maxLocals → decode c.code g.pc = .ok (ig, len) →
    2 * g.monitorRoom + (g.stack.map fun v => v.category).sum ≤ W9 → A.U.methodNamed? y = some mk → Pre A a →
    (∃ (v : Option Value) (B : Pt), Stand p l e R s m sargs below meth c B.U B.locs B.cells B.slots ∧ Post A a v B ∧
      Steps p.tables e below (doInvoke e (A.U.setTop g) [] mk a).1 (B.U.setTop { g with pc := g.pc + len, stack := v.toList ++ g.stack })) ∨
    (∃ (q : Addr) (B : Pt), Stand p l e R s m sargs below meth c B.U B.locs B.cells B.slots ∧ PostX A a q B ∧
      Steps p.tables e below (doInvoke e (A.U.setTop g) [] mk a).1 ((B.U.setTop g).pushFrame (.throwing q)))
section Payer
variable {l : Launch} {R : Room} {p : Program} {e : Env} {below : List Frame} {s : State} {sargs : Array Value} {y : MethodName} {len W9 : Nat}
theorem vx_back {ws : List Cond} {rm : Room} {Pc : Array Value → State → Prop} {Qc : Array Value → State → Outcome → State → Prop} {XC : String → State → State → Prop} {mc ms : Nat} {free : Addr → Prop} {bytes : ByteArray} {maxL : Nat} {ret : Option FieldType}
    (hM : vx_Met l y ws rm Pc Qc XC mc ms free) (hblind : FrameBlind Pc) (hrc : rm.cells = mc) (hrs : rm.slots = ms)
    (hframes : rm.frames + 1 ≤ R.frames) (hlocals : W9 + (maxL + 11) + rm.locals ≤ R.locals)
    (hws : ∀ w ∈ ws, ∀ a' U, s.WarmedH U.vm → w.before a' U = true) (hcode : Cond.code y bytes maxL ret ∈ ws) (hinit : ∀ a' U, s.WarmedH U.vm → (Cond.initialized y.cls).before a' U = true) :
    vx_Back l R p e below s sargs y len W9 (PreOf R mc ms Pc) (PostOf Qc mc ms free) (vx_Post XC mc ms free) := by
  intro m meth c A g ig mk a X hg hsize hdg hW hn hp
  have h1 : (headSpec ws rm).pre.before a A.U = true := atoms_intro fun w hw => hws w hw _ _ X.warmed
  have h2 : (Cond.code y bytes maxL ret).before a A.U = true := hws _ hcode _ _ X.warmed
  have h3 : (Cond.initialized y.cls).before a A.U = true := hinit _ _ X.warmed
  have h4 : A.cells + (headSpec ws rm).room.cells ≤ R.cells := by rw [show (headSpec ws rm).room.cells = mc from hrc]; exact hp.1
  have h5 : A.slots + (headSpec ws rm).room.slots ≤ R.slots := by rw [show (headSpec ws rm).room.slots = ms from hrs]; exact hp.2.1
  have hPc : Pc a (A.U.calling g mk a) := hblind _ _ _ _ hp.2.2
  obtain ⟨U, Ls, c0, s0⟩ := A
  dsimp only [Pt.U, Pt.locs, Pt.cells, Pt.slots] at h1 h2 h3 h4 h5 X hn hPc ⊢
  obtain ⟨methY, cY, hmY, hcY, -, hlY, -, -, -, -⟩ := Cond.code_spec hn h2
  obtain ⟨kY, hkY, -⟩ := className_of_methodNamed hn
  have hinitY : kY.init = .initialized := Cond.initialized_spec (findClass_of_methodNamed hn) hkY h3
  have h : At U g.method c below := by rw [hg]; exact X.here
  have hlocals9 : W9 + (maxL + 11) + (headSpec ws rm).room.locals ≤ R.locals := hlocals
  have happ : (headSpec ws rm).appliesLoose y e.platform (U.calling g mk a) = true :=
    Spec.appliesLoose_calling (g := g) h hdg hn hkY hinitY
      (X.room_calling (g := g) (R' := (headSpec ws rm).room) hsize hmY hcY hframes (by rw [hlY]; omega) h4 h5) h1
  obtain ⟨mid, hmid⟩ := h.above
  have hfr : (U.setTop g).frames = (.java g :: mid) ++ below := by rw [State.frames_setTop' g h.top, hmid]; rfl
  obtain ⟨o, s₂, hsteps, -, hend, hq⟩ := Steps.callFree hM p X.admits X.cas X.clock (acts := []) hfr happ hPc trivial
  have hq' : vx_Q Qc XC mc ms free a (U.calling g mk a) o s₂ := hq
  rw [State.frames_setTop' g h.top] at hend
  obtain ⟨g₀, hg0⟩ := Option.isSome_iff_exists.mp h.top
  obtain ⟨r, hr⟩ := State.topJava?_eq_some.mp hg0
  have hr' : (({ U with heap := s₂.heap, slotsUsed := s₂.slotsUsed } : State).setVm s₂.vm).frames = .java g₀ :: r := hr
  rcases hq' with ⟨hqc, L, hfe, hL⟩ | ⟨q, rfl, E, ce, L, hx, hce, hcv, hcl, hW₂, hsm, hL⟩
  · obtain ⟨⟨v, rfl⟩, hW₂, e2, q2, q3, q4, q5, q6⟩ := id hfe
    have e3 : s₂ = ({ (U.calling g mk a).setFrames s₂.frames with heap := s₂.heap, slotsUsed := s₂.slotsUsed } : State).setVm s₂.vm := by
      have : s₂ = ({ s₂ with vm := (U.calling g mk a).vm } : State).setVm s₂.vm := rfl
      rw [e2] at this
      exact this
    obtain ⟨c₂, i₂, len₂, hc₂, hd₂, hf₂⟩ := hend
    have hW' : U.WarmedH s₂.vm := hW₂
    have hcc : c₂ = c := by
      have h1 : s₂.code? g.method = U.code? g.method := by
        rw [State.code?_eq, State.code?_eq, hW'.alike.method?]
      exact Option.some.inj (hc₂.symm.trans (h1.trans h.code))
    subst hcc
    have hlen : len₂ = len := by rw [hdg] at hd₂; cases hd₂; rfl
    subst hlen
    have hs₂ : s₂ = (({ U with heap := s₂.heap, slotsUsed := s₂.slotsUsed } : State).setVm s₂.vm).setTop { g with pc := g.pc + len₂, stack := v.toList ++ g.stack } := by
      refine e3.trans ?_
      rw [hf₂, State.calling_eq h.top, State.setFrames_setFrames, State.setTop_of_frames _ hr', hr]
      rfl
    have hsame : U.sameButNew ({ U with heap := s₂.heap, slotsUsed := s₂.slotsUsed } : State) L mc ms := by
      refine ⟨?_, q2, q3, q4, q5, q6⟩
      obtain ⟨t, ht, -⟩ := State.frames_cons hr
      show ({ U with heap := s₂.heap, slotsUsed := s₂.slotsUsed } : State) = { U.setFrames U.frames with heap := s₂.heap, slotsUsed := s₂.slotsUsed }
      rw [State.setFrames_self ht]
    subst hg
    refine Or.inl ⟨v, ⟨(({ U with heap := s₂.heap, slotsUsed := s₂.slotsUsed } : State).setVm s₂.vm), Ls ++ L, c0 + mc, s0 + ms⟩,
      ⟨X.admits, X.cas, X.clock, X.frames, X.room, X.hears, X.method, X.code, (X.here.setHeapUsed s₂.heap s₂.slotsUsed).setVm hW'.alike, X.tail, State.WarmedH.trans X.warmed hW', X.limits, X.bytes, X.same.trans (hsame.setVm s.vm)⟩,
      ⟨g, mk, s₂, L, rfl, rfl, hqc, rfl, hL, rfl, rfl⟩, ?_⟩
    show Steps p.tables e below _ ((({ U with heap := s₂.heap, slotsUsed := s₂.slotsUsed } : State).setVm s₂.vm).setTop { g with pc := g.pc + len₂, stack := v.toList ++ g.stack })
    rw [← hs₂]
    exact hsteps
  · obtain ⟨e2, q2, q3, q4, q5, q6⟩ := id hsm
    have e3 : s₂ = ({ (U.calling g mk a).setFrames s₂.frames with heap := s₂.heap, slotsUsed := s₂.slotsUsed } : State).setVm s₂.vm := by
      have : s₂ = ({ s₂ with vm := (U.calling g mk a).vm } : State).setVm s₂.vm := rfl
      rw [e2] at this
      exact this
    have hf₂ : s₂.frames = .throwing q :: .java g :: U.frames.tail := hend
    have hW' : U.WarmedH s₂.vm := hW₂
    have hs₂ : s₂ = ((({ U with heap := s₂.heap, slotsUsed := s₂.slotsUsed } : State).setVm s₂.vm).setTop g).pushFrame (.throwing q) := by
      refine e3.trans ?_
      rw [hf₂, State.calling_eq h.top, State.setFrames_setFrames, State.pushFrame, State.frames_setTop _ hr', State.setTop_of_frames _ hr', State.setFrames_setFrames, hr]
      rfl
    have hsame : U.sameButNew ({ U with heap := s₂.heap, slotsUsed := s₂.slotsUsed } : State) L mc ms := by
      refine ⟨?_, q2, q3, q4, q5, q6⟩
      obtain ⟨t, ht, -⟩ := State.frames_cons hr
      show ({ U with heap := s₂.heap, slotsUsed := s₂.slotsUsed } : State) = { U.setFrames U.frames with heap := s₂.heap, slotsUsed := s₂.slotsUsed }
      rw [State.setFrames_self ht]
    subst hg
    refine Or.inr ⟨q, ⟨(({ U with heap := s₂.heap, slotsUsed := s₂.slotsUsed } : State).setVm s₂.vm), Ls ++ L, c0 + mc, s0 + ms⟩,
      ⟨X.admits, X.cas, X.clock, X.frames, X.room, X.hears, X.method, X.code, (X.here.setHeapUsed s₂.heap s₂.slotsUsed).setVm hW'.alike, X.tail, State.WarmedH.trans X.warmed hW', X.limits, X.bytes, X.same.trans (hsame.setVm s.vm)⟩,
      ⟨g, mk, s₂, L, E, ce, rfl, rfl, hx, hce, hcv, hcl, rfl, hL, rfl, rfl⟩, ?_⟩
    show Steps p.tables e below _ (((({ U with heap := s₂.heap, slotsUsed := s₂.slotsUsed } : State).setVm s₂.vm).setTop g).pushFrame (.throwing q))
    rw [← hs₂]
    exact hsteps
end Payer
section Calls
variable {p : Program} {l : Launch} {e : Env} {R : Room} {s : State} {m : MethodId} {args : Array Value} {below : List Frame} {meth : Method} {c : Code} {T : State} {locs : List Loc} {cells slots : Nat}
theorem vx_callV (X : Stand p l e R s m args below meth c T locs cells slots) (hexec : p.tables.exec = Jvm.exec) {own C : String} {index : Nat} {y : MethodName} {bytes : ByteArray} {maxL : Nat} {ret : Option FieldType}
    (hown : s.vm.findClass own = some m.cls) (hlink : (Cond.methodLink own index y).before args s = true) (hinst : (Cond.instanceMethod y).before args s = true) (hsel : (Cond.selects C y y).before args s = true)
    (hcode : (Cond.code y bytes maxL ret).before args s = true) (hy : y.cls ≠ "java/lang/invoke/MethodHandle" ∧ y.cls ≠ "java/lang/invoke/VarHandle")
    {W9 : Nat} {Pre : Pt → Array Value → Prop} {Post : Pt → Array Value → Option Value → Pt → Prop} {PostX : Pt → Array Value → Addr → Pt → Prop} (hK : vx_Back l R p e below s args y 3 W9 Pre Post PostX)
    {b : Addr} {cellB : Cell} (hcell : T.heap[b]? = some cellB) (hobj : cellB.vm.isStatics = false) (hcls : s.vm.findClass C = some cellB.cls)
    {g : JFrame} (hg : g.method = m) (hsize : g.locals.size = c.maxLocals) {argsL rest : List Value} (hlen : ∀ sig, parseMethodDescriptor y.desc = some sig → argsL.length = sig.parameters.length)
    (hstack : g.stack = argsL.reverse ++ .ref b :: rest) (hW : 2 * g.monitorRoom + (rest.map fun v => v.category).sum ≤ W9) (hdg : decode c.code g.pc = .ok (.invokevirtual index, 3))
    (hpre : ∀ vm₁, s.WarmedH vm₁ → Pre ⟨T.setVm vm₁, locs, cells, slots⟩ (Value.ref b :: argsL).toArray) :
    (∃ (v : Option Value) (vm₁ : Vm) (B : Pt), s.WarmedH vm₁ ∧ Stand p l e R s m args below meth c B.U B.locs B.cells B.slots ∧ Post ⟨T.setVm vm₁, locs, cells, slots⟩ (Value.ref b :: argsL).toArray v B ∧
      ∀ target, Steps p.tables e below (B.U.setTop { g with pc := g.pc + 3, stack := v.toList ++ rest }) target → Steps p.tables e below (T.setTop g) target) ∨
    (∃ (q : Addr) (vm₁ : Vm) (B : Pt), s.WarmedH vm₁ ∧ Stand p l e R s m args below meth c B.U B.locs B.cells B.slots ∧ PostX ⟨T.setVm vm₁, locs, cells, slots⟩ (Value.ref b :: argsL).toArray q B ∧
      Steps p.tables e below (T.setTop g) ((B.U.setTop { g with stack := rest }).pushFrame (.throwing q))) := by
  obtain ⟨mk, methM, hnamed, hmethM, hstM, habM⟩ := Cond.instanceMethod_spec hinst
  obtain ⟨methM', cM, hmethM', -, -, -, -, -, -, hsigM⟩ := Cond.code_spec hnamed hcode
  cases hmethM.symm.trans hmethM'
  obtain ⟨c2, r2, m2, q1, q2, q3, q4, kP, hkP, hkPi⟩ := Cond.selects_spec hsel
  cases hcls.symm.trans q1
  cases (State.methodFound?_of_named hnamed hy).symm.trans q2
  cases hnamed.symm.trans q3
  have hselP : selectMethod e.platform s.vm cellB.cls mk = .method mk := by rw [Launch.admits_selectMethod X.admits]; exact q4
  obtain ⟨vm₁, X₁, hstep₁⟩ := X.invokevirtual hexec hown hlink hnamed hmethM hstM hkP hkPi hy (a := b) (cell := cellB) hcell
    (fun z h => by rw [h] at hobj; cases hobj) hselP hmethM habM hkP hkPi (g := g) hg (argsL := argsL) (rest := rest) (hlen _ hsigM) hstack hdg
  rcases hK m meth c ⟨T.setVm vm₁, locs, cells, slots⟩ { g with stack := rest } (.invokevirtual index) mk (Value.ref b :: argsL).toArray X₁ hg hsize hdg hW (X₁.named hnamed) (hpre vm₁ X₁.warmed) with ⟨v, B, X', hpost, hsteps⟩ | ⟨q, B, X', hpost, hsteps⟩
  · exact Or.inl ⟨v, vm₁, B, X₁.warmed, X', hpost, fun target h => hstep₁ _ fun acts => by rw [doInvoke_state]; exact hsteps.trans h⟩
  · exact Or.inr ⟨q, vm₁, B, X₁.warmed, X', hpost, hstep₁ _ fun acts => by rw [doInvoke_state]; exact hsteps⟩
theorem vx_callS (X : Stand p l e R s m args below meth c T locs cells slots) (hexec : p.tables.exec = Jvm.exec) {own : String} {index : Nat} {y : MethodName} {bytes : ByteArray} {maxL : Nat} {ret : Option FieldType}
    (hown : s.vm.findClass own = some m.cls) (hlink : (Cond.methodLink own index y).before args s = true) (hstat : (Cond.static y).before args s = true) (hinit : (Cond.initialized y.cls).before args s = true)
    (hcode : (Cond.code y bytes maxL ret).before args s = true) (hy : y.cls ≠ "java/lang/invoke/MethodHandle" ∧ y.cls ≠ "java/lang/invoke/VarHandle")
    {W9 : Nat} {Pre : Pt → Array Value → Prop} {Post : Pt → Array Value → Option Value → Pt → Prop} {PostX : Pt → Array Value → Addr → Pt → Prop} (hK : vx_Back l R p e below s args y 3 W9 Pre Post PostX)
    {g : JFrame} (hg : g.method = m) (hsize : g.locals.size = c.maxLocals) {argsL rest : List Value} (hlen : ∀ sig, parseMethodDescriptor y.desc = some sig → argsL.length = sig.parameters.length)
    (hstack : g.stack = argsL.reverse ++ rest) (hW : 2 * g.monitorRoom + (rest.map fun v => v.category).sum ≤ W9) (hdg : decode c.code g.pc = .ok (.invokestatic index, 3))
    (hpre : ∀ vm₁, s.WarmedH vm₁ → Pre ⟨T.setVm vm₁, locs, cells, slots⟩ argsL.toArray) :
    (∃ (v : Option Value) (vm₁ : Vm) (B : Pt), s.WarmedH vm₁ ∧ Stand p l e R s m args below meth c B.U B.locs B.cells B.slots ∧ Post ⟨T.setVm vm₁, locs, cells, slots⟩ argsL.toArray v B ∧
      ∀ target, Steps p.tables e below (B.U.setTop { g with pc := g.pc + 3, stack := v.toList ++ rest }) target → Steps p.tables e below (T.setTop g) target) ∨
    (∃ (q : Addr) (vm₁ : Vm) (B : Pt), s.WarmedH vm₁ ∧ Stand p l e R s m args below meth c B.U B.locs B.cells B.slots ∧ PostX ⟨T.setVm vm₁, locs, cells, slots⟩ argsL.toArray q B ∧
      Steps p.tables e below (T.setTop g) ((B.U.setTop { g with stack := rest }).pushFrame (.throwing q))) := by
  obtain ⟨mk, hnamed⟩ := Cond.code_named hcode
  obtain ⟨methM, cM, hmethM, -, -, -, -, -, -, hsigM⟩ := Cond.code_spec hnamed hcode
  have hstatic : methM.isStatic = true := Cond.static_spec hnamed hmethM hstat
  obtain ⟨kP, hkP, -⟩ := className_of_methodNamed hnamed
  have hinitP : kP.init = .initialized := Cond.initialized_spec (findClass_of_methodNamed hnamed) hkP hinit
  obtain ⟨vm₁, X₁, hstep₁⟩ := X.invokestatic hexec hown hlink hnamed hmethM hstatic hkP hinitP hy (g := g) hg (argsL := argsL) (rest := rest) (hlen _ hsigM) hstack hdg
  rcases hK m meth c ⟨T.setVm vm₁, locs, cells, slots⟩ { g with stack := rest } (.invokestatic index) mk argsL.toArray X₁ hg hsize hdg hW (X₁.named hnamed) (hpre vm₁ X₁.warmed) with ⟨v, B, X', hpost, hsteps⟩ | ⟨q, B, X', hpost, hsteps⟩
  · exact Or.inl ⟨v, vm₁, B, X₁.warmed, X', hpost, fun target h => hstep₁ _ fun acts => by rw [doInvoke_state]; exact hsteps.trans h⟩
  · exact Or.inr ⟨q, vm₁, B, X₁.warmed, X', hpost, hstep₁ _ fun acts => by rw [doInvoke_state]; exact hsteps⟩
end Calls
theorem vx_cls {s : State} {T : State} {vm₁ : Vm} {E : String} {k : ClassId} (hW : s.WarmedH vm₁) (h : (T.setVm vm₁).vm.findClass E = some k) : s.vm.findClass E = some k := by
  have h1 : vm₁.findClass E = some k := h
  rw [hW.alike.findClass] at h1
  exact h1
/-- the method's frame g, with q thrown over it -/
def vx_W (p : Program) (l : Launch) (e : Env) (R : Room) (s : State) (m : MethodId) (args : Array Value) (below : List Frame) (meth : Method) (c : Code) (H : Heap) (locs : List Loc) (cells slots : Nat) (Q : State → Prop) (g : JFrame) (q : Addr) : Prop :=
  ∀ T : State, T.heap = H → Stand p l e R s m args below meth c T locs cells slots → ∃ t, Steps p.tables e below ((T.setTop g).pushFrame (.throwing q)) t ∧ Q t
def vx_Run (p : Program) (l : Launch) (e : Env) (R : Room) (s : State) (m : MethodId) (args : Array Value) (below : List Frame) (meth : Method) (c : Code) (H : Heap) (locs : List Loc) (cells slots mc ms : Nat) (g : JFrame) (rest : List Value) (Qa : State → Outcome → State → Prop) (XC : String → State → State → Prop) (free : Addr → Prop) : Prop :=
  ∀ T : State, T.heap = H → Stand p l e R s m args below meth c T locs cells slots →
    (∃ (v : Option Value) (st₀ t T' : State) (L : List Loc), st₀.heap = H ∧ Stand p l e R s m args below meth c T' (locs ++ L) (cells + mc) (slots + ms) ∧ (∀ q ∈ L, free q.base) ∧ T'.heap = t.heap ∧ T'.vm = t.vm ∧ Qa st₀ (.returned v) t ∧
      Goes p e below T g T' { g with pc := g.pc + 3, stack := v.toList ++ rest }) ∨
    (∃ (q : Addr) (st₀ t T' : State) (L : List Loc) (E : String) (ce : Cell), st₀.heap = H ∧ Stand p l e R s m args below meth c T' (locs ++ L) (cells + mc) (slots + ms) ∧ (∀ z ∈ L, free z.base) ∧ T'.heap = t.heap ∧ T'.vm = t.vm ∧ XC E st₀ t ∧ t.heap[q]? = some ce ∧ ce.vm = .none ∧ s.vm.findClass E = some ce.cls ∧
      Steps p.tables e below (T.setTop g) ((T'.setTop { g with stack := rest }).pushFrame (.throwing q)))
def vx_X {S : Type} (px : S → Prop) (B : String → S → State → Prop) (A : Nat → Prop) : String → State → State → Prop := fun E st t => ∃ u : S, px u ∧ B E u t ∧ va_F A st t
section Runs
variable {p : Program} {l : Launch} {e : Env} {R : Room} {s : State} {m : MethodId} {args : Array Value} {below : List Frame} {meth : Method} {c : Code} {H : Heap} {locs : List Loc} {cells slots : Nat}
variable {y : MethodName} {bytes cc : ByteArray} {maxL nL mc ms n index : Nat} {ret : Option FieldType} {ws : List Cond} {rm : Room} {Pc : Array Value → State → Prop} {Qc : Array Value → State → Outcome → State → Prop} {XC : String → State → State → Prop} {free : Addr → Prop} {Ts : List Cond} {own C : String} {b : Addr} {As rest : List Value} {g : JFrame}
theorem vx_callBack (cb : CallB R s args own index y bytes maxL ret ws rm mc ms n) (hM : vx_Met l y ws rm Pc Qc XC mc ms free) (hbl : FrameBlind Pc) : vx_Back l R p e below s args y 3 8 (PreOf R mc ms Pc) (PostOf Qc mc ms free) (vx_Post XC mc ms free) := by
  obtain ⟨hrc, hrs, hfr, hlo, hws, hcw, -, hini, -⟩ := cb
  exact vx_back (bytes := bytes) (maxL := maxL) (ret := ret) hM hbl hrc hrs hfr hlo hws hcw (fun a' U hW => word_at hW (Or.inl (by first | rfl | simp [Cond.onTables, Cond.keeps, Cond.steady])) hini)
theorem vx_runV (S : CallFix p m c cc nL s args Ts own) (hM : vx_Met l y ws rm Pc Qc XC mc ms free) (cw : CallW R s args own C index y bytes maxL ret ws rm mc ms n) (hp : PreV s H C b Pc As)
    (hg : g.method = m) (hn : As.length = n) (hsize : g.locals.size = nL) (hstack : g.stack = As.reverse ++ .ref b :: rest) (hW : 2 * g.monitorRoom + (rest.map fun v => v.category).sum ≤ 8) (hdg : decode cc g.pc = .ok (.invokevirtual index, 3)) (hf : cells + mc ≤ R.cells ∧ slots + ms ≤ R.slots) :
    vx_Run p l e R s m args below meth c H locs cells slots mc ms g rest (Qc (Value.ref b :: As).toArray) XC free := by
  have hK : vx_Back l R p e below s args y 3 8 (PreOf R mc ms Pc) (PostOf Qc mc ms free) (vx_Post XC mc ms free) := vx_callBack cw.1 hM hp.1
  obtain ⟨⟨-, -, -, -, -, -, hcode, -, hy, hlen, hl⟩, hin, hse⟩ := cw
  obtain ⟨hx, hb, hml, ho, -⟩ := S
  obtain ⟨-, ⟨cellB, hcB, hoB, hclB⟩, hPc⟩ := hp
  intro T hT X
  rcases vx_callV X hx (C := C) (bytes := bytes) (maxL := maxL) (ret := ret) ho hl hin hse hcode hy hK (by rw [hT]; exact hcB) hoB hclB hg (hsize.trans hml.symm) (argsL := As) (rest := rest) (fun sig h => hn.trans (hlen sig h)) hstack hW (by rw [hb]; exact hdg)
    (fun vm₁ hW₁ => ⟨hf.1, hf.2, hPc (T.setVm vm₁) hT hW₁⟩) with ⟨v, vm₁, ⟨U', l2, c2, s2⟩, hW₁, X', ⟨g', mk, t, L, e1, e2, hq, h1, hL, h2, h3⟩, st⟩ | ⟨q, vm₁, ⟨U', l2, c2, s2⟩, hW₁, X', ⟨g', mk, t, L, E, ce, e1, e2, hq, hce, hcv, hcl, h1, hL, h2, h3⟩, st⟩
  · dsimp only [Pt.U, Pt.locs, Pt.cells, Pt.slots] at X' e1 e2 h1 h2 h3 st
    subst h1; subst h2; subst h3
    exact Or.inl ⟨v, (T.setVm vm₁).calling g' mk (Value.ref b :: As).toArray, t, U', L, hT, X', hL, e1, e2, hq, st⟩
  · dsimp only [Pt.U, Pt.locs, Pt.cells, Pt.slots] at X' e1 e2 h1 h2 h3 st hcl
    subst h1; subst h2; subst h3
    exact Or.inr ⟨q, (T.setVm vm₁).calling g' mk (Value.ref b :: As).toArray, t, U', L, E, ce, hT, X', hL, e1, e2, hq, hce, hcv, vx_cls hW₁ hcl, st⟩
theorem vx_runS (S : CallFix p m c cc nL s args Ts own) (hM : vx_Met l y ws rm Pc Qc XC mc ms free) (cw : CallB R s args own index y bytes maxL ret ws rm mc ms n ∧ (Cond.static y).before args s = true) (hp : PreS s H Pc As)
    (hg : g.method = m) (hn : As.length = n) (hsize : g.locals.size = nL) (hstack : g.stack = As.reverse ++ rest) (hW : 2 * g.monitorRoom + (rest.map fun v => v.category).sum ≤ 8) (hdg : decode cc g.pc = .ok (.invokestatic index, 3)) (hf : cells + mc ≤ R.cells ∧ slots + ms ≤ R.slots) :
    vx_Run p l e R s m args below meth c H locs cells slots mc ms g rest (Qc As.toArray) XC free := by
  have hK : vx_Back l R p e below s args y 3 8 (PreOf R mc ms Pc) (PostOf Qc mc ms free) (vx_Post XC mc ms free) := vx_callBack cw.1 hM hp.1
  obtain ⟨⟨-, -, -, -, -, -, hcode, hini, hy, hlen, hl⟩, hstt⟩ := cw
  obtain ⟨hx, hb, hml, ho, -⟩ := S
  intro T hT X
  rcases vx_callS X hx (bytes := bytes) (maxL := maxL) (ret := ret) ho hl hstt hini hcode hy hK hg (hsize.trans hml.symm) (argsL := As) (rest := rest) (fun sig h => hn.trans (hlen sig h)) hstack hW (by rw [hb]; exact hdg)
    (fun vm₁ hW₁ => ⟨hf.1, hf.2, hp.2 (T.setVm vm₁) hT hW₁⟩) with ⟨v, vm₁, ⟨U', l2, c2, s2⟩, hW₁, X', ⟨g', mk, t, L, e1, e2, hq, h1, hL, h2, h3⟩, st⟩ | ⟨q, vm₁, ⟨U', l2, c2, s2⟩, hW₁, X', ⟨g', mk, t, L, E, ce, e1, e2, hq, hce, hcv, hcl, h1, hL, h2, h3⟩, st⟩
  · dsimp only [Pt.U, Pt.locs, Pt.cells, Pt.slots] at X' e1 e2 h1 h2 h3 st
    subst h1; subst h2; subst h3
    exact Or.inl ⟨v, (T.setVm vm₁).calling g' mk As.toArray, t, U', L, hT, X', hL, e1, e2, hq, st⟩
  · dsimp only [Pt.U, Pt.locs, Pt.cells, Pt.slots] at X' e1 e2 h1 h2 h3 st hcl
    subst h1; subst h2; subst h3
    exact Or.inr ⟨q, (T.setVm vm₁).calling g' mk As.toArray, t, U', L, E, ce, hT, X', hL, e1, e2, hq, hce, hcv, vx_cls hW₁ hcl, st⟩
end Runs
section Rows
variable {p : Program} {l : Launch} {e : Env} {R : Room} {s : State} {m : MethodId} {args : Array Value} {below : List Frame} {meth : Method} {c : Code} {H : Heap} {locs : List Loc} {cells slots : Nat} {Q : State → Prop}
variable {mc ms : Nat} {free : Addr → Prop} {A0 A1 : Nat → Prop} {H0 : Heap} {a : Array Value} {pc : Nat} {ls : Array Slot} {st0 rest : List Value}
theorem vx_keep {st₀ t T' : State} {L : List Loc} (h0 : st₀.heap = H) (e1 : T'.heap = t.heap) (hS : va_S A0 H0 H locs) (hA : ∀ q, q < H.size → A1 q → A0 q) (hf : ∀ q, free q → A0 q) (hL : ∀ q ∈ L, free q.base) (hF : va_F A1 st₀ t) :
    H.size ≤ T'.heap.size ∧ (∀ q : Nat, q < H.size → ¬ A1 q → T'.heap[q]? = H[q]?) ∧ va_S A0 H0 T'.heap (locs ++ L) := by
  obtain ⟨hz, hk⟩ := hF
  rw [h0] at hz hk
  exact ⟨by rw [e1]; exact hz, fun q h1 h2 => by rw [e1]; exact hk q h1 h2,
    ⟨Nat.le_trans hS.1 (by rw [e1]; exact hz), fun q h1 h2 => by rw [e1, hk q (Nat.lt_of_lt_of_le h1 hS.1) (fun z => h2 (hA q (Nat.lt_of_lt_of_le h1 hS.1) z))]; exact hS.2.1 q h1 h2, fun q hq => by
      rcases List.mem_append.mp hq with h | h
      · exact hS.2.2 q h
      · exact hf _ (hL q h)⟩⟩
theorem vx_calli {S SX : Type} {post : Int32 → S → Prop} {px : SX → Prop} {B : S → State → Prop} {BX : String → SX → State → Prop} {AX : Nat → Prop} (hr : vx_Run p l e R s m args below meth c H locs cells slots mc ms (F0 m pc ls st0) rest (va_Qi post B A1 a) (vx_X px BX AX) free) (hS : va_S A0 H0 H locs) (hA : ∀ q, q < H.size → A1 q → A0 q) (hf : ∀ q, free q → A0 q) (hAX : ∀ q, q < H.size → AX q → A0 q)
    (kx : ∀ (E : String) (ce : Cell) (q9 : Addr) (u : SX) (t : State) (H1 : Heap) (locs1 : List Loc), t.heap = H1 → s.vm.Alike t.vm → px u → BX E u t → H.size ≤ H1.size → (∀ q : Nat, q < H.size → ¬ AX q → H1[q]? = H[q]?) → va_S A0 H0 H1 locs1 → H1[q9]? = some ce → ce.vm = .none → s.vm.findClass E = some ce.cls → vx_W p l e R s m args below meth c H1 locs1 (cells + mc) (slots + ms) Q (F0 m pc ls rest) q9)
    (kk : ∀ (r : Int32) (u : S) (t : State) (H1 : Heap) (locs1 : List Loc), t.heap = H1 → s.vm.Alike t.vm → post r u → B u t → H.size ≤ H1.size → (∀ q : Nat, q < H.size → ¬ A1 q → H1[q]? = H[q]?) → va_S A0 H0 H1 locs1 → W p l e R s m args below meth c H1 locs1 (cells + mc) (slots + ms) Q (F0 m (pc + 3) ls (.int r :: rest))) : W p l e R s m args below meth c H locs cells slots Q (F0 m pc ls st0) := by
  intro T hT X
  rcases hr T hT X with ⟨v, st₀, t, T', L, h0, X', hL, e1, e2, ⟨⟨r, u, hv, hp, hb⟩, hF⟩, st⟩ | ⟨q, st₀, t, T', L, E, ce, h0, X', hL, e1, e2, ⟨u, hp, hb, hF⟩, hce, hcv, hcl, st⟩
  · cases hv
    obtain ⟨k1, k2, k3⟩ := vx_keep h0 e1 hS hA hf hL hF
    obtain ⟨t2, a1, b1⟩ := kk r u t T'.heap (locs ++ L) e1.symm (by rw [← e2]; exact X'.warmed.alike) hp hb k1 k2 k3 T' rfl X'
    exact ⟨t2, st t2 a1, b1⟩
  · obtain ⟨k1, k2, k3⟩ := vx_keep h0 e1 hS hAX hf hL hF
    obtain ⟨t2, a1, b1⟩ := kx E ce q u t T'.heap (locs ++ L) e1.symm (by rw [← e2]; exact X'.warmed.alike) hp hb k1 k2 k3 (by rw [e1]; exact hce) hcv hcl T' rfl X'
    exact ⟨t2, st.trans a1, b1⟩
theorem vx_calll {S SX : Type} {post : Int64 → S → Prop} {px : SX → Prop} {B : S → State → Prop} {BX : String → SX → State → Prop} {AX : Nat → Prop} (hr : vx_Run p l e R s m args below meth c H locs cells slots mc ms (F0 m pc ls st0) rest (va_Ql post B A1 a) (vx_X px BX AX) free) (hS : va_S A0 H0 H locs) (hA : ∀ q, q < H.size → A1 q → A0 q) (hf : ∀ q, free q → A0 q) (hAX : ∀ q, q < H.size → AX q → A0 q)
    (kx : ∀ (E : String) (ce : Cell) (q9 : Addr) (u : SX) (t : State) (H1 : Heap) (locs1 : List Loc), t.heap = H1 → s.vm.Alike t.vm → px u → BX E u t → H.size ≤ H1.size → (∀ q : Nat, q < H.size → ¬ AX q → H1[q]? = H[q]?) → va_S A0 H0 H1 locs1 → H1[q9]? = some ce → ce.vm = .none → s.vm.findClass E = some ce.cls → vx_W p l e R s m args below meth c H1 locs1 (cells + mc) (slots + ms) Q (F0 m pc ls rest) q9)
    (kk : ∀ (r : Int64) (u : S) (t : State) (H1 : Heap) (locs1 : List Loc), t.heap = H1 → s.vm.Alike t.vm → post r u → B u t → H.size ≤ H1.size → (∀ q : Nat, q < H.size → ¬ A1 q → H1[q]? = H[q]?) → va_S A0 H0 H1 locs1 → W p l e R s m args below meth c H1 locs1 (cells + mc) (slots + ms) Q (F0 m (pc + 3) ls (.long r :: rest))) : W p l e R s m args below meth c H locs cells slots Q (F0 m pc ls st0) := by
  intro T hT X
  rcases hr T hT X with ⟨v, st₀, t, T', L, h0, X', hL, e1, e2, ⟨⟨r, u, hv, hp, hb⟩, hF⟩, st⟩ | ⟨q, st₀, t, T', L, E, ce, h0, X', hL, e1, e2, ⟨u, hp, hb, hF⟩, hce, hcv, hcl, st⟩
  · cases hv
    obtain ⟨k1, k2, k3⟩ := vx_keep h0 e1 hS hA hf hL hF
    obtain ⟨t2, a1, b1⟩ := kk r u t T'.heap (locs ++ L) e1.symm (by rw [← e2]; exact X'.warmed.alike) hp hb k1 k2 k3 T' rfl X'
    exact ⟨t2, st t2 a1, b1⟩
  · obtain ⟨k1, k2, k3⟩ := vx_keep h0 e1 hS hAX hf hL hF
    obtain ⟨t2, a1, b1⟩ := kx E ce q u t T'.heap (locs ++ L) e1.symm (by rw [← e2]; exact X'.warmed.alike) hp hb k1 k2 k3 (by rw [e1]; exact hce) hcv hcl T' rfl X'
    exact ⟨t2, st.trans a1, b1⟩
theorem vx_callf {S SX : Type} {post : UInt32 → S → Prop} {px : SX → Prop} {B : S → State → Prop} {BX : String → SX → State → Prop} {AX : Nat → Prop} (hr : vx_Run p l e R s m args below meth c H locs cells slots mc ms (F0 m pc ls st0) rest (va_Qf post B A1 a) (vx_X px BX AX) free) (hS : va_S A0 H0 H locs) (hA : ∀ q, q < H.size → A1 q → A0 q) (hf : ∀ q, free q → A0 q) (hAX : ∀ q, q < H.size → AX q → A0 q)
    (kx : ∀ (E : String) (ce : Cell) (q9 : Addr) (u : SX) (t : State) (H1 : Heap) (locs1 : List Loc), t.heap = H1 → s.vm.Alike t.vm → px u → BX E u t → H.size ≤ H1.size → (∀ q : Nat, q < H.size → ¬ AX q → H1[q]? = H[q]?) → va_S A0 H0 H1 locs1 → H1[q9]? = some ce → ce.vm = .none → s.vm.findClass E = some ce.cls → vx_W p l e R s m args below meth c H1 locs1 (cells + mc) (slots + ms) Q (F0 m pc ls rest) q9)
    (kk : ∀ (r : UInt32) (u : S) (t : State) (H1 : Heap) (locs1 : List Loc), t.heap = H1 → s.vm.Alike t.vm → post r u → B u t → H.size ≤ H1.size → (∀ q : Nat, q < H.size → ¬ A1 q → H1[q]? = H[q]?) → va_S A0 H0 H1 locs1 → W p l e R s m args below meth c H1 locs1 (cells + mc) (slots + ms) Q (F0 m (pc + 3) ls (.float r :: rest))) : W p l e R s m args below meth c H locs cells slots Q (F0 m pc ls st0) := by
  intro T hT X
  rcases hr T hT X with ⟨v, st₀, t, T', L, h0, X', hL, e1, e2, ⟨⟨r, u, hv, hp, hb⟩, hF⟩, st⟩ | ⟨q, st₀, t, T', L, E, ce, h0, X', hL, e1, e2, ⟨u, hp, hb, hF⟩, hce, hcv, hcl, st⟩
  · cases hv
    obtain ⟨k1, k2, k3⟩ := vx_keep h0 e1 hS hA hf hL hF
    obtain ⟨t2, a1, b1⟩ := kk r u t T'.heap (locs ++ L) e1.symm (by rw [← e2]; exact X'.warmed.alike) hp hb k1 k2 k3 T' rfl X'
    exact ⟨t2, st t2 a1, b1⟩
  · obtain ⟨k1, k2, k3⟩ := vx_keep h0 e1 hS hAX hf hL hF
    obtain ⟨t2, a1, b1⟩ := kx E ce q u t T'.heap (locs ++ L) e1.symm (by rw [← e2]; exact X'.warmed.alike) hp hb k1 k2 k3 (by rw [e1]; exact hce) hcv hcl T' rfl X'
    exact ⟨t2, st.trans a1, b1⟩
theorem vx_calld {S SX : Type} {post : UInt64 → S → Prop} {px : SX → Prop} {B : S → State → Prop} {BX : String → SX → State → Prop} {AX : Nat → Prop} (hr : vx_Run p l e R s m args below meth c H locs cells slots mc ms (F0 m pc ls st0) rest (va_Qd post B A1 a) (vx_X px BX AX) free) (hS : va_S A0 H0 H locs) (hA : ∀ q, q < H.size → A1 q → A0 q) (hf : ∀ q, free q → A0 q) (hAX : ∀ q, q < H.size → AX q → A0 q)
    (kx : ∀ (E : String) (ce : Cell) (q9 : Addr) (u : SX) (t : State) (H1 : Heap) (locs1 : List Loc), t.heap = H1 → s.vm.Alike t.vm → px u → BX E u t → H.size ≤ H1.size → (∀ q : Nat, q < H.size → ¬ AX q → H1[q]? = H[q]?) → va_S A0 H0 H1 locs1 → H1[q9]? = some ce → ce.vm = .none → s.vm.findClass E = some ce.cls → vx_W p l e R s m args below meth c H1 locs1 (cells + mc) (slots + ms) Q (F0 m pc ls rest) q9)
    (kk : ∀ (r : UInt64) (u : S) (t : State) (H1 : Heap) (locs1 : List Loc), t.heap = H1 → s.vm.Alike t.vm → post r u → B u t → H.size ≤ H1.size → (∀ q : Nat, q < H.size → ¬ A1 q → H1[q]? = H[q]?) → va_S A0 H0 H1 locs1 → W p l e R s m args below meth c H1 locs1 (cells + mc) (slots + ms) Q (F0 m (pc + 3) ls (.double r :: rest))) : W p l e R s m args below meth c H locs cells slots Q (F0 m pc ls st0) := by
  intro T hT X
  rcases hr T hT X with ⟨v, st₀, t, T', L, h0, X', hL, e1, e2, ⟨⟨r, u, hv, hp, hb⟩, hF⟩, st⟩ | ⟨q, st₀, t, T', L, E, ce, h0, X', hL, e1, e2, ⟨u, hp, hb, hF⟩, hce, hcv, hcl, st⟩
  · cases hv
    obtain ⟨k1, k2, k3⟩ := vx_keep h0 e1 hS hA hf hL hF
    obtain ⟨t2, a1, b1⟩ := kk r u t T'.heap (locs ++ L) e1.symm (by rw [← e2]; exact X'.warmed.alike) hp hb k1 k2 k3 T' rfl X'
    exact ⟨t2, st t2 a1, b1⟩
  · obtain ⟨k1, k2, k3⟩ := vx_keep h0 e1 hS hAX hf hL hF
    obtain ⟨t2, a1, b1⟩ := kx E ce q u t T'.heap (locs ++ L) e1.symm (by rw [← e2]; exact X'.warmed.alike) hp hb k1 k2 k3 (by rw [e1]; exact hce) hcv hcl T' rfl X'
    exact ⟨t2, st.trans a1, b1⟩
theorem vx_callv {S SX : Type} {post : S → Prop} {px : SX → Prop} {B : S → State → Prop} {BX : String → SX → State → Prop} {AX : Nat → Prop} (hr : vx_Run p l e R s m args below meth c H locs cells slots mc ms (F0 m pc ls st0) rest (va_Qv post B A1 a) (vx_X px BX AX) free) (hS : va_S A0 H0 H locs) (hA : ∀ q, q < H.size → A1 q → A0 q) (hf : ∀ q, free q → A0 q) (hAX : ∀ q, q < H.size → AX q → A0 q)
    (kx : ∀ (E : String) (ce : Cell) (q9 : Addr) (u : SX) (t : State) (H1 : Heap) (locs1 : List Loc), t.heap = H1 → s.vm.Alike t.vm → px u → BX E u t → H.size ≤ H1.size → (∀ q : Nat, q < H.size → ¬ AX q → H1[q]? = H[q]?) → va_S A0 H0 H1 locs1 → H1[q9]? = some ce → ce.vm = .none → s.vm.findClass E = some ce.cls → vx_W p l e R s m args below meth c H1 locs1 (cells + mc) (slots + ms) Q (F0 m pc ls rest) q9)
    (kk : ∀ (u : S) (t : State) (H1 : Heap) (locs1 : List Loc), t.heap = H1 → s.vm.Alike t.vm → post u → B u t → H.size ≤ H1.size → (∀ q : Nat, q < H.size → ¬ A1 q → H1[q]? = H[q]?) → va_S A0 H0 H1 locs1 → W p l e R s m args below meth c H1 locs1 (cells + mc) (slots + ms) Q (F0 m (pc + 3) ls (rest))) : W p l e R s m args below meth c H locs cells slots Q (F0 m pc ls st0) := by
  intro T hT X
  rcases hr T hT X with ⟨v, st₀, t, T', L, h0, X', hL, e1, e2, ⟨⟨u, hv, hp, hb⟩, hF⟩, st⟩ | ⟨q, st₀, t, T', L, E, ce, h0, X', hL, e1, e2, ⟨u, hp, hb, hF⟩, hce, hcv, hcl, st⟩
  · cases hv
    obtain ⟨k1, k2, k3⟩ := vx_keep h0 e1 hS hA hf hL hF
    obtain ⟨t2, a1, b1⟩ := kk u t T'.heap (locs ++ L) e1.symm (by rw [← e2]; exact X'.warmed.alike) hp hb k1 k2 k3 T' rfl X'
    exact ⟨t2, st t2 a1, b1⟩
  · obtain ⟨k1, k2, k3⟩ := vx_keep h0 e1 hS hAX hf hL hF
    obtain ⟨t2, a1, b1⟩ := kx E ce q u t T'.heap (locs ++ L) e1.symm (by rw [← e2]; exact X'.warmed.alike) hp hb k1 k2 k3 (by rw [e1]; exact hce) hcv hcl T' rfl X'
    exact ⟨t2, st.trans a1, b1⟩
/-- caught by the row x of this method's table; the rows ahead don't take it -/
theorem vx_catch {own name : String} {E : String} {ce : Cell} {q : Addr} (hown : s.vm.findClass own = some m.cls) (pre : List ExceptionTableEntry) (x : ExceptionTableEntry) (suf : List ExceptionTableEntry) (hsplit : c.exceptionTable.toList = pre ++ x :: suf)
    (hpass : ∀ z ∈ pre, covers z pc = false ∨ (z.catchType ≠ 0 ∧ ∃ nm : String, (Cond.classLink own z.catchType nm).before args s = true ∧ va_Nc E nm s)) (hx : covers x pc = true) (h0 : x.catchType ≠ 0)
    (hlink : (Cond.classLink own x.catchType name).before args s = true) (hcast : (Cond.castable E name).before args s = true) (hcell : H[q]? = some ce) (hv : ce.vm = .none) (hcl : s.vm.findClass E = some ce.cls)
    (kk : W p l e R s m args below meth c H locs cells slots Q (F0 m x.handlerPc ls [.ref q])) : vx_W p l e R s m args below meth c H locs cells slots Q (F0 m pc ls rest) q := by
  intro T hT X
  have hpl : e.platform.magicAccessors = ({} : Platform).magicAccessors := by rw [X.admits.platform]
  obtain ⟨c3, c4, hc3, hc4, hasg⟩ := Cond.castable_spec hcast
  cases Option.some.inj (hc3.symm.trans hcl)
  obtain ⟨c5, hc5, hcl5⟩ := Cond.classLink_spec hown hlink e.platform hpl
  cases Option.some.inj (hc4.symm.trans hc5)
  obtain ⟨vm', X', st⟩ := X.thenCaughtThrough q (g := F0 m pc ls rest) rfl (Steps.refl _) (by rw [hT]; exact hcell) (by rw [hv]; rfl) (by obtain ⟨k9, h9, -⟩ := Vm.findClass_spec hcl; exact ⟨k9, h9⟩) pre x suf hsplit
    (fun z hz => by
      rcases hpass z hz with h | ⟨hz0, nm, hl1, hn1⟩
      · exact Or.inl h
      · obtain ⟨c6, hc6, hcl6⟩ := Cond.classLink_spec hown hl1 e.platform hpl
        obtain ⟨a8, b8, h1, h2, h3⟩ := hn1
        cases Option.some.inj (h1.symm.trans hcl)
        cases Option.some.inj (h2.symm.trans hc6)
        exact Or.inr ⟨hz0, _, hcl6, h3⟩) hx (Or.inr ⟨h0, c4, hcl5, hasg⟩)
  obtain ⟨t, a1, b1⟩ := kk (T.setVm vm') hT X'
  exact ⟨t, st.trans a1, b1⟩
end Rows
section Ends
variable {p : Program} {l : Launch} {e : Env} {R : Room} {s : State} {m : MethodId} {args : Array Value} {below : List Frame} {meth : Method} {c : Code} {H : Heap} {locs : List Loc} {cells slots : Nat} {Q : State → Prop}
variable {mc ms : Nat} {free : Addr → Prop} {A0 A1 : Nat → Prop} {H0 : Heap} {a : Array Value} {ls : Array Slot} {st0 rest : List Value}
variable {Qc : Array Value → State → Outcome → State → Prop} {XC : String → State → State → Prop}
/-- what a body that may throw owes at its end -/
def vx_MQ (below : List Frame) (Qc : Array Value → State → Outcome → State → Prop) (XC : String → State → State → Prop) (a : Array Value) (s : State) (mc ms : Nat) (free : Addr → Prop) : State → Prop := fun t =>
  ∃ o, t.status = .running ∧ Ended t below o ∧ vx_Q Qc XC mc ms free a s o t
theorem vx_ret {g : JFrame} {mc ms : Nat} (k : W p l e R s m args below meth c H locs cells slots (MQ below Qc args s mc ms free) g) : W p l e R s m args below meth c H locs cells slots (vx_MQ below Qc XC args s mc ms free) g := by
  intro T hT X
  obtain ⟨t, a1, o, b1, b2, b3, b4⟩ := k T hT X
  exact ⟨t, a1, o, b1, b2, Or.inl ⟨b3, b4⟩⟩
/-- not caught here: it goes on to the caller -/
theorem vx_widen {g : JFrame} {q : Addr} {k n : Nat} (h1 : cells ≤ k) (h2 : slots ≤ n) (kk : vx_W p l e R s m args below meth c H locs k n Q g q) : vx_W p l e R s m args below meth c H locs cells slots Q g q := fun T hT X => kk T hT (stand_widen X h1 h2)
theorem vx_out {pc : Nat} {E : String} {ce : Cell} {q : Addr} {mc ms : Nat} (hout : ∀ x ∈ c.exceptionTable.toList, covers x pc = false) (hlocks : meth.locks = false) (hcell : H[q]? = some ce) (hv : ce.vm = .none) (hcl : s.vm.findClass E = some ce.cls)
    (hx : ∀ t : State, t.heap = H → s.vm.Alike t.vm → XC E s t) (hf : ∀ z ∈ locs, free z.base) (hc : cells ≤ mc) (hs : slots ≤ ms) :
    vx_W p l e R s m args below meth c H locs cells slots (vx_MQ below Qc XC args s mc ms free) (F0 m pc ls rest) q := by
  intro T hT X
  obtain ⟨st1, hrun, hend, hW, hsm⟩ := X.leaveThrown q (g := F0 m pc ls rest) rfl rfl rfl hout hlocks
  have hcell9 : (T.setFrames (.throwing q :: below)).heap[q]? = some ce := by
    show T.heap[q]? = some ce
    rw [hT]; exact hcell
  exact ⟨_, st1, .threw q, hrun, hend, Or.inr ⟨q, rfl, E, ce, locs, hx _ hT hW.alike, hcell9, hv, hcl, hW, hsm.mono hc hs, hf⟩⟩
theorem vx_frame {U : State} {k n : Nat} (h : s.sameButNew ({ U with vm := s.vm } : State) locs k n) : s.heap.size ≤ U.heap.size ∧ ∀ q : Nat, q < s.heap.size → (∀ z ∈ locs, z.base ≠ q) → U.heap[q]? = s.heap[q]? := by
  obtain ⟨-, h2, -, -, -, h6⟩ := h
  refine ⟨h2, fun q hq hz => ?_⟩
  obtain ⟨c9, e1, e2, e3, e4⟩ := h6 q _ (Array.getElem?_eq_getElem hq)
  have hs : c9.slots = (s.heap[q]).slots := Array.ext_getElem? fun i => e4 i fun hm => hz _ hm rfl
  have h9 : c9 = s.heap[q] := by
    rw [hs] at e2
    exact e2
  have e5 : U.heap[q]? = some c9 := e1
  rw [e5, h9, Array.getElem?_eq_getElem hq]
/-- the words of a throw but the four that speak of the heap -/
def vx_no (w : Cond) : Bool := decide (w ≠ .isRef (.static Bundle.tN "UNASSIGNED_STACK" Bundle.steD)) && decide (w ≠ .isRef (.static Bundle.tN "SUPPRESSED_SENTINEL" Bundle.listD)) && decide (w ≠ .laysStatic Bundle.tN "UNASSIGNED_STACK" Bundle.steD) && decide (w ≠ .laysStatic Bundle.tN "SUPPRESSED_SENTINEL" Bundle.listD)
def vx_at0 (own : String) (ic : Nat) (X : String) (names : List String) : List Cond := (Bundle.ownAtoms0 own ic X names).filter vx_no
def vx_atS (own : String) (ic : Nat) (X : String) (names : List String) : List Cond := (Bundle.ownAtoms own ic X names).filter vx_no
/-- a word that the tables alone decide, or a good one -/
def vx_ot (w : Cond) : Bool := w.onTables || goodWord w
theorem vx_ot_at {args a' : Array Value} {s U : State} {w : Cond} (hW : s.WarmedH U.vm) (hvm : s.vm = U.vm) (hg : vx_ot w = true) (h : w.before args s = true) : w.before a' U = true := by
  simp only [vx_ot, Bool.or_eq_true] at hg
  rcases hg with hg | hg
  · exact va_tabs hg hvm h
  · exact word_at hW (good_of_word hg) h
/-- a list's words: the good ones out of the method's own list, the others by premises of their own -/
theorem vx_hat {args : Array Value} {s : State} {L B : List Cond} (h1 : ∀ w ∈ L.filter goodWord, w.before args s = true) (h2 : ∀ w ∈ L.filter (fun w => !goodWord w), w ∈ B) (h3 : ∀ w ∈ B, w.before args s = true) : ∀ w ∈ L, w.before args s = true := by
  intro w hw
  by_cases g : goodWord w = true
  · exact h1 w (List.mem_filter.mpr ⟨hw, g⟩)
  · refine h3 w (h2 w (List.mem_filter.mpr ⟨hw, ?_⟩))
    show (!goodWord w) = true
    cases hgw : goodWord w
    · rfl
    · exact absurd hgw g
theorem vx_c {args : Array Value} {s : State} {w : Cond} {B : List Cond} (h : w.before args s = true) (t : ∀ w ∈ B, w.before args s = true) : ∀ w' ∈ w :: B, w'.before args s = true := fun w' h' => (List.mem_cons.mp h').elim (fun e => by rw [e]; exact h) (t w')
theorem vx_n {args : Array Value} {s : State} : ∀ w ∈ ([] : List Cond), w.before args s = true := fun _ h => nomatch h
theorem vx_own {args : Array Value} {s : State} {L : List Cond} (h1 : ∀ w ∈ L.filter vx_no, w.before args s = true)
    (hU : (Cond.isRef (.static Bundle.tN "UNASSIGNED_STACK" Bundle.steD)).before args s = true) (hN : (Cond.isRef (.static Bundle.tN "SUPPRESSED_SENTINEL" Bundle.listD)).before args s = true)
    (lU : (Cond.laysStatic Bundle.tN "UNASSIGNED_STACK" Bundle.steD).before args s = true) (lN : (Cond.laysStatic Bundle.tN "SUPPRESSED_SENTINEL" Bundle.listD).before args s = true) : ∀ w ∈ L, w.before args s = true := by
  intro w hw
  by_cases e1 : w = .isRef (.static Bundle.tN "UNASSIGNED_STACK" Bundle.steD)
  · rw [e1]; exact hU
  · by_cases e2 : w = .isRef (.static Bundle.tN "SUPPRESSED_SENTINEL" Bundle.listD)
    · rw [e2]; exact hN
    · by_cases e3 : w = .laysStatic Bundle.tN "UNASSIGNED_STACK" Bundle.steD
      · rw [e3]; exact lU
      · by_cases e4 : w = .laysStatic Bundle.tN "SUPPRESSED_SENTINEL" Bundle.listD
        · rw [e4]; exact lN
        · exact h1 w (List.mem_filter.mpr ⟨hw, by unfold vx_no; rw [decide_eq_true e1, decide_eq_true e2, decide_eq_true e3, decide_eq_true e4]; rfl⟩)
/-- where a static field lies, its class's statics cell in H -/
def vx_L (C n d : String) (A : Nat → Prop) (U : State) (H : Heap) : Prop := ∃ (c : ClassId) (k : Class) (i : Nat) (f : Field) (a : Nat) (cell : Cell), U.vm.findClass C = some c ∧ U.fieldFound? C n d = some (c, k, i, f) ∧ f.isStatic = true ∧ k.statics = some a ∧ H[a]? = some cell ∧ cell.vm.isStatics = true ∧ cell.cls = c ∧ f.slot < cell.slots.size ∧ k.staticTypes[f.slot]? = some f.type ∧ ¬ A a
theorem vx_L.moved {C n d : String} {A : Nat → Prop} {u U : State} {H : Heap} (hvm : u.vm.Alike U.vm) (h : vx_L C n d A u H) : vx_L C n d A U H := by
  obtain ⟨c, k, i, f, a, cell, h1, h2, h3, h4, h5, h6, h7, h8, h9, h10⟩ := h
  obtain ⟨k', hi', he⟩ := State.fieldFound?_setVm hvm h2
  exact ⟨c, k', i, f, a, cell, by rw [hvm.findClass]; exact h1, hi', h3, by rw [he]; exact h4, h5, h6, h7, h8, by rw [he]; exact h9, h10⟩
theorem vx_L.kept {C n d : String} {A : Nat → Prop} {U : State} {H H1 : Heap} (h : vx_L C n d A U H) (hq : ∀ a : Nat, a < H.size → ¬ A a → H1[a]? = H[a]?) : vx_L C n d A U H1 := by
  obtain ⟨c, k, i, f, a, cell, h1, h2, h3, h4, h5, h6, h7, h8, h9, h10⟩ := h
  exact ⟨c, k, i, f, a, cell, h1, h2, h3, h4, by rw [hq a (Array.getElem?_eq_some_iff.mp h5).1 h10]; exact h5, h6, h7, h8, h9, h10⟩
theorem vx_L.narrow {C n d : String} {A B : Nat → Prop} {U : State} {H : Heap} (h : vx_L C n d A U H) (hAB : ∀ q, B q → A q) : vx_L C n d B U H := by
  obtain ⟨c, k, i, f, a, cell, h1, h2, h3, h4, h5, h6, h7, h8, h9, h10⟩ := h
  exact ⟨c, k, i, f, a, cell, h1, h2, h3, h4, h5, h6, h7, h8, h9, fun z => h10 (hAB _ z)⟩
theorem vx_L.word {C n d : String} {A : Nat → Prop} {s : State} {args : Array Value} (h : vx_L C n d A s s.heap) : (Cond.laysStatic C n d).before args s = true := by
  obtain ⟨c, k, i, f, a, cell, h1, h2, h3, h4, h5, h6, h7, h8, h9, -⟩ := h
  show (Cond.laysStatic C n d).holds args s none s [] = true
  exact Cond.laysStatic_of h1 h2 h3 h4 h5 h6 h7 h8 h9
/-- .. and what it holds: null or some reference -/
def vx_Zq (C n d : String) (A : Nat → Prop) (U : State) (H : Heap) : Prop := va_Zq C n d A U H ∧ vx_L C n d A U H
theorem vx_Zq.moved {C n d : String} {A : Nat → Prop} {u U : State} {H : Heap} (hvm : u.vm.Alike U.vm) (h : vx_Zq C n d A u H) : vx_Zq C n d A U H := ⟨va_Zq.moved hvm h.1, vx_L.moved hvm h.2⟩
theorem vx_Zq.kept {C n d : String} {A : Nat → Prop} {U : State} {H H1 : Heap} (h : vx_Zq C n d A U H) (hq : ∀ a : Nat, a < H.size → ¬ A a → H1[a]? = H[a]?) : vx_Zq C n d A U H1 := ⟨va_Zq.kept h.1 hq, vx_L.kept h.2 hq⟩
theorem vx_Zq.narrow {C n d : String} {A B : Nat → Prop} {U : State} {H : Heap} (h : vx_Zq C n d A U H) (hAB : ∀ q, B q → A q) : vx_Zq C n d B U H := ⟨va_Zq.narrow h.1 hAB, vx_L.narrow h.2 hAB⟩
theorem vx_Zqof {args : Array Value} {s : State} {C n d : String} {A : Nat → Prop} (hl : (Cond.laysStatic C n d).before args s = true) (hini : (Cond.initialized C).before args s = true) (h : (Cond.isRef (.static C n d)).before args s = true) (hA : ∀ a : Nat, a < s.heap.size → ¬ A a) : vx_Zq C n d A s s.heap := by
  refine ⟨va_Zqof hl hini h hA, ?_⟩
  obtain ⟨c, k, i, f, a, cell, h1, h2, h3, h4, h5, h6, h7, h8, h9⟩ := Cond.laysStatic_spec hl
  exact ⟨c, k, i, f, a, cell, h1, h2, h3, h4, h5, h6, h7, h8, h9, hA a (Array.getElem?_eq_some_iff.mp h5).1⟩
theorem vx_isRef {C n d : String} {v : Value} {A : Nat → Prop} {s : State} {args : Array Value} (h : va_Z C n d v A s s.heap) (hv : v.isRef = true) : (Cond.isRef (.static C n d)).before args s = true := by
  obtain ⟨cf, kf, fi, f, a, cell, h1, h2, h3, h4, h5, h6, h7, -⟩ := h
  have he : (Term.static C n d).eval args s none [] s = some v := by
    simp [Term.eval, State.fieldNamed?, h1, h2, h4, h5, h6, h7]
  simp only [Cond.before, Cond.holds, Cond.value, he]
  cases v <;> simp_all [Value.isRef]
theorem vx_isRefq {C n d : String} {A : Nat → Prop} {s : State} {args : Array Value} (h : va_Zq C n d A s s.heap) : (Cond.isRef (.static C n d)).before args s = true := by
  rcases h with h | ⟨t, h⟩
  · exact vx_isRef h rfl
  · exact vx_isRef h rfl
/-- the same frame, seen from here: as if the method were called anew in this heap -/
theorem vx_rebase {T : State} (X : Stand p l e R s m args below meth c T locs cells slots) {R' : Room} (hf : R'.frames ≤ R.frames) (hl : R'.locals ≤ R.locals) (hc : cells + R'.cells ≤ R.cells) (hs : slots + R'.slots ≤ R.slots) :
    Stand p l e R' ((T.setVm s.vm).setFrames (.invoking m args :: below)) m args below meth c T [] 0 0 := by
  have htop : (T.setVm s.vm).topJava?.isSome := X.here.top
  have hF : ((T.setVm s.vm).setFrames (.invoking m args :: below)).frames = .invoking m args :: below := State.frames_setFrames _ (State.cur_lt_of_top htop)
  obtain ⟨g₀, hg0⟩ := Option.isSome_iff_exists.mp htop
  obtain ⟨r, hr⟩ := State.topJava?_eq_some.mp hg0
  have hl9 : e.platform.stackLimits (T.setVm s.vm).me = e.platform.stackLimits s.me := X.limits
  have hb9 : (T.setVm s.vm).me.stackBytes = s.me.stackBytes := X.bytes
  refine ⟨X.admits, X.cas, X.clock, hF, ?_, X.hears, X.method, X.code, X.here, X.tail, X.warmed, ?_, ?_, ?_⟩
  · have h := X.room
    have hU : ((T.setVm s.vm).setFrames (.invoking m args :: below)).localsInUse = s.localsInUse := by
      rw [State.localsInUse_invoking hF (meth := meth) (c := c) X.method X.code, State.localsInUse_invoking X.frames X.method X.code]
    simp only [State.hasRoom, Bool.and_eq_true, decide_eq_true_eq] at h ⊢
    obtain ⟨⟨⟨⟨h1, h2, h3, h4, h5, h6⟩, h7⟩, h8⟩, h9⟩ := h
    rw [X.frames, List.length_cons] at h2 h3
    have q1 := X.heapSize
    have q2 := X.used
    simp only [hF, hU, List.length_cons, State.stackLimits_setFrames, State.stackBytes_setFrames, hl9, hb9]
    refine ⟨⟨⟨⟨by omega, by omega, by omega, by omega, by omega, h6⟩, ?_⟩, ?_⟩, X.book⟩
    · show T.heap.size + R'.cells ≤ e.platform.maxCells
      omega
    · show T.slotsUsed + R'.slots ≤ e.platform.maxSlots
      omega
  · rw [State.stackLimits_setFrames]; rfl
  · rw [State.stackBytes_setFrames]; rfl
  · refine ⟨?_, Nat.le_refl _, Nat.le_refl _, ?_, ?_, fun a c9 h9 => ⟨c9, h9, rfl, rfl, fun _ _ => rfl⟩⟩
    · obtain ⟨t, ht, -⟩ := State.frames_cons hr
      show T.setVm s.vm = { ((T.setVm s.vm).setFrames (.invoking m args :: below)).setFrames (T.setVm s.vm).frames with heap := T.heap, slotsUsed := T.slotsUsed }
      rw [State.setFrames_setFrames, State.setFrames_self ht]
      rfl
    · show T.slotsUsed = T.slotsUsed + ((T.heap.toList.drop T.heap.size).map (·.slots.size)).sum
      rw [List.drop_eq_nil_of_le (Nat.le_of_eq Array.length_toList)]
      rfl
    · show ((T.heap.toList.drop T.heap.size).map (·.slots.size)).sum ≤ 0
      rw [List.drop_eq_nil_of_le (Nat.le_of_eq Array.length_toList)]
      exact Nat.le_refl _
/-- 'throw new E()': new; dup; invokespecial; athrow -/
theorem vx_throw0 {cc : ByteArray} {pc : Nat} (hexec : p.tables.exec = Jvm.exec) (hb : c.code = cc) (hl : l.stackTraces = false) {own cls : String} {names : List String} {ik ic mc ms : Nat} {A : Nat → Prop}
    (hown : s.vm.findClass own = some m.cls) (hcls : Bundle.fit cls = true) (hnames : ∀ n ∈ names, Bundle.fit n = true)
    (hk : (Cond.classLink own ik cls).before args s = true) (hini : (Cond.initialized cls).before args s = true) (hat : ∀ w ∈ vx_at0 own ic cls names, w.before args s = true)
    (hgood : ∀ w ∈ Cond.classLink own ik cls :: Cond.initialized cls :: vx_at0 own ic cls names, vx_ot w = true)
    (hU : vx_Zq Bundle.tN "UNASSIGNED_STACK" Bundle.steD A s s.heap) (hN : vx_Zq Bundle.tN "SUPPRESSED_SENTINEL" Bundle.listD A s s.heap) (hS : va_S A s.heap H locs) (hsize : ls.size = c.maxLocals)
    (d0 : decode cc pc = .ok (.new ik, 3)) (d3 : decode cc (pc + 3) = .ok (.dup, 1)) (d4 : decode cc (pc + 4) = .ok (.invokespecial ic, 3)) (d7 : decode cc (pc + 7) = .ok (.athrow, 1))
    (hout : ∀ x ∈ c.exceptionTable.toList, covers x (pc + 7) = false)
    (hRframes : names.length + 3 < R.frames) (hRlocals : (rest.map fun v => v.category).sum + (13 * (names.length + 1) + 42) ≤ R.locals) (hRcells : cells + 1 ≤ R.cells) (hRslots : slots + 6 ≤ R.slots) (hlocks : meth.locks = false)
    (hx : ∀ t : State, s.vm.Alike t.vm → H.size ≤ t.heap.size → (∀ q : Nat, q < H.size → t.heap[q]? = H[q]?) → XC cls s t)
    (hf : ∀ z ∈ locs, free z.base) (hc : cells + 1 ≤ mc) (hs : slots + 6 ≤ ms) :
    W p l e R s m args below meth c H locs cells slots (vx_MQ below Qc XC args s mc ms free) (F0 m pc ls rest) := by
  intro T hT X
  have htr : e.platform.stackTraces = false := (show e.platform.stackTraces = l.stackTraces by rw [X.admits.platform]).trans hl
  have Y := vx_rebase X (R' := { frames := R.frames, locals := R.locals, cells := 1, slots := 6 }) (Nat.le_refl _) (Nat.le_refl _) hRcells hRslots
  obtain ⟨s', hA⟩ : ∃ z, z = (T.setVm s.vm).setFrames (.invoking m args :: below) := ⟨_, rfl⟩
  rw [← hA] at Y
  have hvm : s'.vm = s.vm := by rw [hA]; rfl
  have hhp : s'.heap = H := by rw [hA]; exact hT
  have hW0 : s.WarmedH s'.vm := by rw [hvm]; exact State.WarmedH.refl s
  have hat' : ∀ w ∈ vx_at0 own ic cls names, w.before args s' = true := fun w hw => vx_ot_at hW0 hvm.symm (hgood w (List.mem_cons_of_mem _ (List.mem_cons_of_mem _ hw))) (hat w hw)
  have hk' : (Cond.classLink own ik cls).before args s' = true := vx_ot_at hW0 hvm.symm (hgood _ List.mem_cons_self) hk
  have hini' : (Cond.initialized cls).before args s' = true := vx_ot_at hW0 hvm.symm (hgood _ (List.mem_cons_of_mem _ List.mem_cons_self)) hini
  have hU' : vx_Zq Bundle.tN "UNASSIGNED_STACK" Bundle.steD A s' s'.heap := by rw [hhp]; exact vx_Zq.moved hW0.alike (hU.kept hS.2.1)
  have hN' : vx_Zq Bundle.tN "SUPPRESSED_SENTINEL" Bundle.listD A s' s'.heap := by rw [hhp]; exact vx_Zq.moved hW0.alike (hN.kept hS.2.1)
  have h : ∀ w ∈ Bundle.ownAtoms0 own ic cls names, w.before args s' = true := vx_own hat' (vx_isRefq hU'.1) (vx_isRefq hN'.1) hU'.2.word hN'.2.word
  have hown' : s'.vm.findClass own = some m.cls := by rw [hvm]; exact hown
  have hins : (Cond.instantiable cls 6).before args s' = true := h _ (by simp [Bundle.ownAtoms0])
  obtain ⟨vm₁, cX, kX, hfX, hkX, -, -, X₁, st1⟩ := Y.newCold hexec (own := own) (C := cls) (index := ik) (n := 6) hown' hk' hins hini'
    (g := F0 m pc ls rest) rfl (by rw [hb]; exact d0) (Nat.le_refl _) (Nat.le_refl _)
  generalize hT1 : (T.setVm vm₁).pushCell { cls := cX, slots := kX.instanceTypes.map defaultValue, vm := .none } = T1 at X₁ st1
  have hcat : (Value.ref T.heap.size).category = 1 := rfl
  have hcellA : T1.heap[T.heap.size]? = some (freshCell cX kX) := by rw [← hT1]; exact State.heap_pushCell_size _ _
  have d3' : decode c.code (pc + 3) = .ok (.dup, 1) := by rw [hb]; exact d3
  obtain ⟨U, hsteps, hrun, hend, hW, hsame, ce, hce, hO⟩ := X₁.ctorThrow0 hexec htr (own := own) (cls := cls) (names := names) (ic := ic) hown' hcls hnames h (fun x hx => nomatch hx) hfX hkX hcellA (by rw [hhp, hT]; exact Nat.le_refl _)
    (g := { method := m, pc := pc + 4, locals := ls, stack := .ref T.heap.size :: .ref T.heap.size :: rest, locked := none }) rfl hsize rfl rfl (rest := rest) rfl
    (by rw [hb]; exact d4) (by rw [hb]; exact d7) hout hRframes (by simp only [List.map_cons, List.sum_cons, hcat]; omega) hlocks
  obtain ⟨f1, f2⟩ := vx_frame hsame
  rw [hhp] at f1 f2
  have hWs : s.WarmedH U.vm := State.WarmedH.trans hW0 hW
  have hcl : s.vm.findClass cls = some ce.cls := by
    have h9 := hO.cls
    rw [hvm] at h9
    exact h9
  have hall : s.sameButNew ({ U with vm := s.vm } : State) locs mc ms := by
    subst hA
    obtain ⟨e1, e2⟩ := hsame
    rw [State.setFrames_setFrames] at e1
    have h2 : (T.setVm s.vm).sameButNew ({ U with vm := s.vm } : State) [] (0 + 1) (0 + 6) := ⟨e1, e2⟩
    have h3 := X.same.trans h2
    rw [List.append_nil] at h3
    exact h3.mono hc hs
  refine ⟨U, ?_, .threw T.heap.size, hrun, hend, Or.inr ⟨T.heap.size, rfl, cls, ce, locs, hx U hWs.alike f1 (fun q hq => f2 q hq (fun z hz => nomatch hz)), hce, hO.vm, hcl, hWs, hall, hf⟩⟩
  refine st1 _ ?_
  show Steps p.tables e below (T1.setTop { method := m, pc := pc + 3, locals := ls, stack := .ref T.heap.size :: rest, locked := none }) _
  jvm_step X₁.here [X₁.here.top, hexec, d3', Value.category]
  exact hsteps
/-- 'throw new E("text")': new; dup; ldc; invokespecial; athrow -/
theorem vx_throwS {cc : ByteArray} {pc : Nat} (hexec : p.tables.exec = Jvm.exec) (hb : c.code = cc) (hl : l.stackTraces = false) {own cls text : String} {names : List String} {ik is ic mc ms sa : Nat} {A : Nat → Prop}
    (hown : s.vm.findClass own = some m.cls) (hcls : Bundle.fit cls = true) (hnames : ∀ n ∈ names, Bundle.fit n = true)
    (hk : (Cond.classLink own ik cls).before args s = true) (hini : (Cond.initialized cls).before args s = true) (hstr : vk_R own is text sa s) (hat : ∀ w ∈ vx_atS own ic cls names, w.before args s = true)
    (hgood : ∀ w ∈ Cond.classLink own ik cls :: Cond.initialized cls :: vx_atS own ic cls names, vx_ot w = true)
    (hU : vx_Zq Bundle.tN "UNASSIGNED_STACK" Bundle.steD A s s.heap) (hN : vx_Zq Bundle.tN "SUPPRESSED_SENTINEL" Bundle.listD A s s.heap) (hS : va_S A s.heap H locs) (hsize : ls.size = c.maxLocals)
    (d0 : decode cc pc = .ok (.new ik, 3)) (d3 : decode cc (pc + 3) = .ok (.dup, 1)) (d4 : decode cc (pc + 4) = .ok (.ldc is, 2)) (d6 : decode cc (pc + 6) = .ok (.invokespecial ic, 3)) (d9 : decode cc (pc + 9) = .ok (.athrow, 1))
    (hout : ∀ x ∈ c.exceptionTable.toList, covers x (pc + 9) = false)
    (hRframes : names.length + 3 < R.frames) (hRlocals : (rest.map fun v => v.category).sum + (13 * (names.length + 1) + 43) ≤ R.locals) (hRcells : cells + 1 ≤ R.cells) (hRslots : slots + 6 ≤ R.slots) (hlocks : meth.locks = false)
    (hx : ∀ t : State, s.vm.Alike t.vm → H.size ≤ t.heap.size → (∀ q : Nat, q < H.size → t.heap[q]? = H[q]?) → XC cls s t)
    (hf : ∀ z ∈ locs, free z.base) (hc : cells + 1 ≤ mc) (hs : slots + 6 ≤ ms) :
    W p l e R s m args below meth c H locs cells slots (vx_MQ below Qc XC args s mc ms free) (F0 m pc ls rest) := by
  intro T hT X
  have htr : e.platform.stackTraces = false := (show e.platform.stackTraces = l.stackTraces by rw [X.admits.platform]).trans hl
  have Y := vx_rebase X (R' := { frames := R.frames, locals := R.locals, cells := 1, slots := 6 }) (Nat.le_refl _) (Nat.le_refl _) hRcells hRslots
  obtain ⟨s', hA⟩ : ∃ z, z = (T.setVm s.vm).setFrames (.invoking m args :: below) := ⟨_, rfl⟩
  rw [← hA] at Y
  have hvm : s'.vm = s.vm := by rw [hA]; rfl
  have hhp : s'.heap = H := by rw [hA]; exact hT
  have hW0 : s.WarmedH s'.vm := by rw [hvm]; exact State.WarmedH.refl s
  have hat' : ∀ w ∈ vx_atS own ic cls names, w.before args s' = true := fun w hw => vx_ot_at hW0 hvm.symm (hgood w (List.mem_cons_of_mem _ (List.mem_cons_of_mem _ hw))) (hat w hw)
  have hk' : (Cond.classLink own ik cls).before args s' = true := vx_ot_at hW0 hvm.symm (hgood _ List.mem_cons_self) hk
  have hini' : (Cond.initialized cls).before args s' = true := vx_ot_at hW0 hvm.symm (hgood _ (List.mem_cons_of_mem _ List.mem_cons_self)) hini
  have hU' : vx_Zq Bundle.tN "UNASSIGNED_STACK" Bundle.steD A s' s'.heap := by rw [hhp]; exact vx_Zq.moved hW0.alike (hU.kept hS.2.1)
  have hN' : vx_Zq Bundle.tN "SUPPRESSED_SENTINEL" Bundle.listD A s' s'.heap := by rw [hhp]; exact vx_Zq.moved hW0.alike (hN.kept hS.2.1)
  have h : ∀ w ∈ Bundle.ownAtoms own ic cls names, w.before args s' = true := vx_own hat' (vx_isRefq hU'.1) (vx_isRefq hN'.1) hU'.2.word hN'.2.word
  have hown' : s'.vm.findClass own = some m.cls := by rw [hvm]; exact hown
  have hins : (Cond.instantiable cls 6).before args s' = true := h _ (by simp [Bundle.ownAtoms])
  obtain ⟨vm₁, cX, kX, hfX, hkX, -, -, X₁, st1⟩ := Y.newCold hexec (own := own) (C := cls) (index := ik) (n := 6) hown' hk' hins hini'
    (g := F0 m pc ls rest) rfl (by rw [hb]; exact d0) (Nat.le_refl _) (Nat.le_refl _)
  generalize hT1 : (T.setVm vm₁).pushCell { cls := cX, slots := kX.instanceTypes.map defaultValue, vm := .none } = T1 at X₁ st1
  have hcat : (Value.ref T.heap.size).category = 1 := rfl
  have hcellA : T1.heap[T.heap.size]? = some (freshCell cX kX) := by rw [← hT1]; exact State.heap_pushCell_size _ _
  have d3' : decode c.code (pc + 3) = .ok (.dup, 1) := by rw [hb]; exact d3
  have d4' : decode c.code (pc + 4) = .ok (.ldc is, 2) := by rw [hb]; exact d4
  have hstr' : vk_R own is text sa s' := vk_R.warm hW0 hstr
  obtain ⟨U, hsteps, hrun, hend, hW, hsame, ce, hce, hO⟩ := X₁.ctorThrowS hexec htr (own := own) (cls := cls) (names := names) (ic := ic) hown' hcls hnames h (fun x hx => nomatch hx) hfX hkX hcellA (by rw [hhp, hT]; exact Nat.le_refl _) (msg := .ref sa) rfl
    (g := { method := m, pc := pc + 6, locals := ls, stack := .ref sa :: .ref T.heap.size :: .ref T.heap.size :: rest, locked := none }) rfl hsize rfl rfl (rest := rest) rfl
    (by rw [hb]; exact d6) (by rw [hb]; exact d9) hout hRframes (by simp only [List.map_cons, List.sum_cons, hcat]; omega) hlocks
  obtain ⟨f1, f2⟩ := vx_frame hsame
  rw [hhp] at f1 f2
  have hWs : s.WarmedH U.vm := State.WarmedH.trans hW0 hW
  have hcl : s.vm.findClass cls = some ce.cls := by
    have h9 := hO.cls
    rw [hvm] at h9
    exact h9
  have hall : s.sameButNew ({ U with vm := s.vm } : State) locs mc ms := by
    subst hA
    obtain ⟨e1, e2⟩ := hsame
    rw [State.setFrames_setFrames] at e1
    have h2 : (T.setVm s.vm).sameButNew ({ U with vm := s.vm } : State) [] (0 + 1) (0 + 6) := ⟨e1, e2⟩
    have h3 := X.same.trans h2
    rw [List.append_nil] at h3
    exact h3.mono hc hs
  refine ⟨U, ?_, .threw T.heap.size, hrun, hend, Or.inr ⟨T.heap.size, rfl, cls, ce, locs, hx U hWs.alike f1 (fun q hq => f2 q hq (fun z hz => nomatch hz)), hce, hO.vm, hcl, hWs, hall, hf⟩⟩
  refine st1 _ ?_
  show Steps p.tables e below (T1.setTop { method := m, pc := pc + 3, locals := ls, stack := .ref T.heap.size :: rest, locked := none }) _
  jvm_step X₁.here [X₁.here.top, hexec, d3', Value.category]
  exact X₁.ldcString hexec (own := own) (text := text) (index := is) (a := sa) hown' hstr'.1 hstr'.2
    (g := { method := m, pc := pc + 4, locals := ls, stack := .ref T.heap.size :: .ref T.heap.size :: rest, locked := none }) rfl d4' _ hsteps
/-- 'throw new E("text")', the text by a wide index -/
theorem vx_throwSW {cc : ByteArray} {pc : Nat} (hexec : p.tables.exec = Jvm.exec) (hb : c.code = cc) (hl : l.stackTraces = false) {own cls text : String} {names : List String} {ik is ic mc ms sa : Nat} {A : Nat → Prop}
    (hown : s.vm.findClass own = some m.cls) (hcls : Bundle.fit cls = true) (hnames : ∀ n ∈ names, Bundle.fit n = true)
    (hk : (Cond.classLink own ik cls).before args s = true) (hini : (Cond.initialized cls).before args s = true) (hstr : vk_R own is text sa s) (hat : ∀ w ∈ vx_atS own ic cls names, w.before args s = true)
    (hgood : ∀ w ∈ Cond.classLink own ik cls :: Cond.initialized cls :: vx_atS own ic cls names, vx_ot w = true)
    (hU : vx_Zq Bundle.tN "UNASSIGNED_STACK" Bundle.steD A s s.heap) (hN : vx_Zq Bundle.tN "SUPPRESSED_SENTINEL" Bundle.listD A s s.heap) (hS : va_S A s.heap H locs) (hsize : ls.size = c.maxLocals)
    (d0 : decode cc pc = .ok (.new ik, 3)) (d3 : decode cc (pc + 3) = .ok (.dup, 1)) (d4 : decode cc (pc + 4) = .ok (.ldc_w is, 3)) (d7 : decode cc (pc + 7) = .ok (.invokespecial ic, 3)) (d10 : decode cc (pc + 10) = .ok (.athrow, 1))
    (hout : ∀ x ∈ c.exceptionTable.toList, covers x (pc + 10) = false)
    (hRframes : names.length + 3 < R.frames) (hRlocals : (rest.map fun v => v.category).sum + (13 * (names.length + 1) + 43) ≤ R.locals) (hRcells : cells + 1 ≤ R.cells) (hRslots : slots + 6 ≤ R.slots) (hlocks : meth.locks = false)
    (hx : ∀ t : State, s.vm.Alike t.vm → H.size ≤ t.heap.size → (∀ q : Nat, q < H.size → t.heap[q]? = H[q]?) → XC cls s t)
    (hf : ∀ z ∈ locs, free z.base) (hc : cells + 1 ≤ mc) (hs : slots + 6 ≤ ms) :
    W p l e R s m args below meth c H locs cells slots (vx_MQ below Qc XC args s mc ms free) (F0 m pc ls rest) := by
  intro T hT X
  have htr : e.platform.stackTraces = false := (show e.platform.stackTraces = l.stackTraces by rw [X.admits.platform]).trans hl
  have Y := vx_rebase X (R' := { frames := R.frames, locals := R.locals, cells := 1, slots := 6 }) (Nat.le_refl _) (Nat.le_refl _) hRcells hRslots
  obtain ⟨s', hA⟩ : ∃ z, z = (T.setVm s.vm).setFrames (.invoking m args :: below) := ⟨_, rfl⟩
  rw [← hA] at Y
  have hvm : s'.vm = s.vm := by rw [hA]; rfl
  have hhp : s'.heap = H := by rw [hA]; exact hT
  have hW0 : s.WarmedH s'.vm := by rw [hvm]; exact State.WarmedH.refl s
  have hat' : ∀ w ∈ vx_atS own ic cls names, w.before args s' = true := fun w hw => vx_ot_at hW0 hvm.symm (hgood w (List.mem_cons_of_mem _ (List.mem_cons_of_mem _ hw))) (hat w hw)
  have hk' : (Cond.classLink own ik cls).before args s' = true := vx_ot_at hW0 hvm.symm (hgood _ List.mem_cons_self) hk
  have hini' : (Cond.initialized cls).before args s' = true := vx_ot_at hW0 hvm.symm (hgood _ (List.mem_cons_of_mem _ List.mem_cons_self)) hini
  have hU' : vx_Zq Bundle.tN "UNASSIGNED_STACK" Bundle.steD A s' s'.heap := by rw [hhp]; exact vx_Zq.moved hW0.alike (hU.kept hS.2.1)
  have hN' : vx_Zq Bundle.tN "SUPPRESSED_SENTINEL" Bundle.listD A s' s'.heap := by rw [hhp]; exact vx_Zq.moved hW0.alike (hN.kept hS.2.1)
  have h : ∀ w ∈ Bundle.ownAtoms own ic cls names, w.before args s' = true := vx_own hat' (vx_isRefq hU'.1) (vx_isRefq hN'.1) hU'.2.word hN'.2.word
  have hown' : s'.vm.findClass own = some m.cls := by rw [hvm]; exact hown
  have hins : (Cond.instantiable cls 6).before args s' = true := h _ (by simp [Bundle.ownAtoms])
  obtain ⟨vm₁, cX, kX, hfX, hkX, -, -, X₁, st1⟩ := Y.newCold hexec (own := own) (C := cls) (index := ik) (n := 6) hown' hk' hins hini'
    (g := F0 m pc ls rest) rfl (by rw [hb]; exact d0) (Nat.le_refl _) (Nat.le_refl _)
  generalize hT1 : (T.setVm vm₁).pushCell { cls := cX, slots := kX.instanceTypes.map defaultValue, vm := .none } = T1 at X₁ st1
  have hcat : (Value.ref T.heap.size).category = 1 := rfl
  have hcellA : T1.heap[T.heap.size]? = some (freshCell cX kX) := by rw [← hT1]; exact State.heap_pushCell_size _ _
  have d3' : decode c.code (pc + 3) = .ok (.dup, 1) := by rw [hb]; exact d3
  have d4' : decode c.code (pc + 4) = .ok (.ldc_w is, 3) := by rw [hb]; exact d4
  have hstr' : vk_R own is text sa s' := vk_R.warm hW0 hstr
  obtain ⟨U, hsteps, hrun, hend, hW, hsame, ce, hce, hO⟩ := X₁.ctorThrowS hexec htr (own := own) (cls := cls) (names := names) (ic := ic) hown' hcls hnames h (fun x hx => nomatch hx) hfX hkX hcellA (by rw [hhp, hT]; exact Nat.le_refl _) (msg := .ref sa) rfl
    (g := { method := m, pc := pc + 7, locals := ls, stack := .ref sa :: .ref T.heap.size :: .ref T.heap.size :: rest, locked := none }) rfl hsize rfl rfl (rest := rest) rfl
    (by rw [hb]; exact d7) (by rw [hb]; exact d10) hout hRframes (by simp only [List.map_cons, List.sum_cons, hcat]; omega) hlocks
  obtain ⟨f1, f2⟩ := vx_frame hsame
  rw [hhp] at f1 f2
  have hWs : s.WarmedH U.vm := State.WarmedH.trans hW0 hW
  have hcl : s.vm.findClass cls = some ce.cls := by
    have h9 := hO.cls
    rw [hvm] at h9
    exact h9
  have hall : s.sameButNew ({ U with vm := s.vm } : State) locs mc ms := by
    subst hA
    obtain ⟨e1, e2⟩ := hsame
    rw [State.setFrames_setFrames] at e1
    have h2 : (T.setVm s.vm).sameButNew ({ U with vm := s.vm } : State) [] (0 + 1) (0 + 6) := ⟨e1, e2⟩
    have h3 := X.same.trans h2
    rw [List.append_nil] at h3
    exact h3.mono hc hs
  refine ⟨U, ?_, .threw T.heap.size, hrun, hend, Or.inr ⟨T.heap.size, rfl, cls, ce, locs, hx U hWs.alike f1 (fun q hq => f2 q hq (fun z hz => nomatch hz)), hce, hO.vm, hcl, hWs, hall, hf⟩⟩
  refine st1 _ ?_
  show Steps p.tables e below (T1.setTop { method := m, pc := pc + 3, locals := ls, stack := .ref T.heap.size :: rest, locked := none }) _
  jvm_step X₁.here [X₁.here.top, hexec, d3', Value.category]
  exact X₁.ldcStringW hexec (own := own) (text := text) (index := is) (a := sa) hown' hstr'.1 hstr'.2
    (g := { method := m, pc := pc + 4, locals := ls, stack := .ref T.heap.size :: .ref T.heap.size :: rest, locked := none }) rfl d4' _ hsteps
end Ends
section Bodies
variable {l : Launch}
theorem vx_ofW {y : MethodName} {ws ws' : List Cond} {rm : Room} {Pc : Array Value → State → Prop} {Qc : Array Value → State → Outcome → State → Prop} {XC : String → State → State → Prop} {mc ms : Nat} {free : Addr → Prop} {cc : ByteArray} {maxL : Nat} {ret : Option FieldType}
    (hy : plainName y.cls = true) (hw : ws = Cond.code y cc maxL ret :: ws')
    (body : ∀ p e s m args below meth c s₁, BodyLoose p l y (headSpec ws rm) cc maxL ret e s m args below meth c s₁ → c.maxLocals = maxL → (∀ x ∈ c.exceptionTable.toList, False) → Pc args s →
      W p l e (headSpec ws rm).room s m args below meth c s.heap [] 0 0 (vx_MQ below Qc XC args s mc ms free) (entryFrame m args maxL)) : vx_Met l y ws rm Pc Qc XC mc ms free := by
  refine MetFree.of_bodyS (code := cc) (maxLocals := maxL) (ret := ret) hy ?_ ?_
  · intro args s m h hn
    obtain ⟨meth, c, h1, h2, h3, h4, h5, h6, -, -⟩ := Cond.code_spec hn (atoms_spec (ws := ws) h _ (by rw [hw]; exact List.mem_cons_self))
    exact ⟨meth, c, h1, h2, h3, h4, h5, h6⟩
  · intro p e s m args below meth c s₁ B hml hP _
    have hh0 : s₁.heap = s.heap := by rw [B.state]; rfl
    have ht : ∀ x ∈ c.exceptionTable.toList, False := by
      obtain ⟨meth9, c9, h1, h2, -, -, -, -, h7, -⟩ := Cond.code_spec B.named (atoms_spec (ws := ws) B.pre _ (by rw [hw]; exact List.mem_cons_self))
      cases Option.some.inj (h1.symm.trans B.method)
      cases Option.some.inj (h2.symm.trans (Stand.of_body B).code)
      intro x hx
      rw [Array.isEmpty_iff.mp h7] at hx
      cases hx
    obtain ⟨t, a1, o, b1, b2, b3⟩ := body p e s m args below meth c s₁ B hml ht hP s₁ hh0 (Stand.of_body B)
    exact ⟨t, o, a1, b1, b2, b3⟩
/-- the table of a body with handlers -/
theorem vx_table {p : Program} {x y : MethodName} {S : Spec} {cc bytes : ByteArray} {maxL maxL' : Nat} {ret ret' : Option FieldType} {e : Env} {s s₁ : State} {m : MethodId} {args : Array Value} {below : List Frame} {meth : Method} {c : Code} {hh : List (Nat × Nat × Nat × Nat)}
    (B : BodyLoose p l y S cc maxL ret e s m args below meth c s₁) (h : (Cond.codeWith y bytes maxL' ret' hh).before args s = true) : c.exceptionTable.toList = tableOf hh := by
  obtain ⟨m9, meth9, c9, hn9, h1, h2, -, -, h6, -⟩ := Cond.codeWith_spec h
  cases Option.some.inj (hn9.symm.trans B.named)
  cases Option.some.inj (h1.symm.trans B.method)
  cases Option.some.inj (h2.symm.trans (Stand.of_body B).code)
  rw [← h6, table_eq]
end Bodies
end VXA
/-! ===== END ===== -/
/-! ===== BEGIN a static call of a method with an exception table ===== -/
section VXS
variable {p : Program} {l : Launch} {e : Env} {R : Room} {s : State} {m : MethodId} {args : Array Value} {below : List Frame} {meth : Method} {c : Code} {T : State} {H : Heap} {locs : List Loc} {cells slots : Nat}
abbrev vx_CSW (R : Room) (s : State) (args : Array Value) (own : String) (index : Nat) (y : MethodName) (bytes : ByteArray) (maxL : Nat) (ret : Option FieldType) (hh : List (Nat × Nat × Nat × Nat)) (ws : List Cond) (rm : Room) (mc ms n : Nat) : Prop :=
  (rm.cells = mc ∧ rm.slots = ms ∧ rm.frames + 1 ≤ R.frames ∧ 8 + (maxL + 11) + rm.locals ≤ R.locals ∧ (∀ w ∈ ws, ∀ (a' : Array Value) (U : State), s.WarmedH U.vm → w.before a' U = true) ∧ Cond.codeWith y bytes maxL ret hh ∈ ws) ∧
  (Cond.codeWith y bytes maxL ret hh).before args s = true ∧ (Cond.initialized y.cls).before args s = true ∧ (y.cls ≠ "java/lang/invoke/MethodHandle" ∧ y.cls ≠ "java/lang/invoke/VarHandle") ∧
  (∀ sig, parseMethodDescriptor y.desc = some sig → n = sig.parameters.length) ∧ (Cond.methodLink own index y).before args s = true ∧ (Cond.static y).before args s = true
theorem vx_cwSW {own : String} {index maxL mc ms : Nat} {y : MethodName} {bytes : ByteArray} {ret : Option FieldType} {hh : List (Nat × Nat × Nat × Nat)} {Ts ws ws' : List Cond} {rm : Room} (n : Nat) (ht : ∀ w ∈ Ts, w.before args s = true) (hT : GoodIn Ts (va_wsS own index y ws)) (hw : ws = Cond.codeWith y bytes maxL ret hh :: ws') (hrc : rm.cells = mc) (hrs : rm.slots = ms)
    (hd : y.cls ≠ "java/lang/invoke/MethodHandle" ∧ y.cls ≠ "java/lang/invoke/VarHandle" ∧ (parseMethodDescriptor y.desc).map (fun d => d.parameters.length) = some n) (hR : rm.frames + 1 ≤ R.frames ∧ 8 + (maxL + 11) + rm.locals ≤ R.locals) :
    vx_CSW R s args own index y bytes maxL ret hh ws rm mc ms n := by
  have ok : ∀ w ∈ va_wsS own index y ws, w.before args s = true := fun w h => ht w (hT w h).1
  have hG : GoodIn Ts ws := fun w h => hT w (by unfold va_wsS; exact List.mem_append_right _ h)
  have hc : Cond.codeWith y bytes maxL ret hh ∈ ws := by rw [hw]; exact List.mem_cons_self
  refine ⟨⟨hrc, hrs, hR.1, hR.2, pay_in ht hG, hc⟩, ht _ (hG _ hc).1, ok _ (by simp [va_wsS]), ⟨hd.1, hd.2.1⟩, fun sig h => ?_, ok _ (by simp [va_wsS]), ok _ (by simp [va_wsS])⟩
  have h2 := hd.2.2
  rw [h] at h2
  exact (Option.some.inj h2).symm
theorem vx_callSW (X : Stand p l e R s m args below meth c T locs cells slots) (hexec : p.tables.exec = Jvm.exec) {own : String} {index : Nat} {y : MethodName} {bytes : ByteArray} {maxL : Nat} {ret : Option FieldType} {hh : List (Nat × Nat × Nat × Nat)}
    (hown : s.vm.findClass own = some m.cls) (hlink : (Cond.methodLink own index y).before args s = true) (hstat : (Cond.static y).before args s = true) (hinit : (Cond.initialized y.cls).before args s = true)
    (hcode : (Cond.codeWith y bytes maxL ret hh).before args s = true) (hy : y.cls ≠ "java/lang/invoke/MethodHandle" ∧ y.cls ≠ "java/lang/invoke/VarHandle")
    {W9 : Nat} {Pre : Pt → Array Value → Prop} {Post : Pt → Array Value → Option Value → Pt → Prop} (hK : Back l R p e below s args y 3 W9 Pre Post)
    {g : JFrame} (hg : g.method = m) (hsize : g.locals.size = c.maxLocals) {argsL rest : List Value} (hlen : ∀ sig, parseMethodDescriptor y.desc = some sig → argsL.length = sig.parameters.length)
    (hstack : g.stack = argsL.reverse ++ rest) (hW : 2 * g.monitorRoom + (rest.map fun v => v.category).sum ≤ W9) (hdg : decode c.code g.pc = .ok (.invokestatic index, 3))
    (hpre : ∀ vm₁, s.WarmedH vm₁ → Pre ⟨T.setVm vm₁, locs, cells, slots⟩ argsL.toArray) :
    ∃ (v : Option Value) (vm₁ : Vm) (B : Pt), s.WarmedH vm₁ ∧ Stand p l e R s m args below meth c B.U B.locs B.cells B.slots ∧ Post ⟨T.setVm vm₁, locs, cells, slots⟩ argsL.toArray v B ∧
      ∀ target, Steps p.tables e below (B.U.setTop { g with pc := g.pc + 3, stack := v.toList ++ rest }) target → Steps p.tables e below (T.setTop g) target := by
  obtain ⟨mk, methM, cM, hnamed, hmethM, -, -, -, -, -, -, hsigM⟩ := Cond.codeWith_spec hcode
  have hstatic : methM.isStatic = true := Cond.static_spec hnamed hmethM hstat
  obtain ⟨kP, hkP, -⟩ := className_of_methodNamed hnamed
  have hinitP : kP.init = .initialized := Cond.initialized_spec (findClass_of_methodNamed hnamed) hkP hinit
  obtain ⟨vm₁, X₁, hstep₁⟩ := X.invokestatic hexec hown hlink hnamed hmethM hstatic hkP hinitP hy (g := g) hg (argsL := argsL) (rest := rest) (hlen _ hsigM) hstack hdg
  obtain ⟨v, B, X', hpost, hsteps⟩ := hK m meth c ⟨T.setVm vm₁, locs, cells, slots⟩ { g with stack := rest } (.invokestatic index) mk argsL.toArray X₁ hg hsize hdg hW (X₁.named hnamed) (hpre vm₁ X₁.warmed)
  exact ⟨v, vm₁, B, X₁.warmed, X', hpost, fun target h => hstep₁ _ fun acts => by rw [doInvoke_state]; exact hsteps.trans h⟩
theorem vx_runSW {y : MethodName} {bytes cc : ByteArray} {maxL nL mc ms n index : Nat} {ret : Option FieldType} {hh : List (Nat × Nat × Nat × Nat)} {ws : List Cond} {rm : Room} {Pc : Array Value → State → Prop} {Qc : Array Value → State → Outcome → State → Prop} {free : Addr → Prop} {Ts : List Cond} {own : String} {As rest : List Value} {g : JFrame}
    (S : CallFix p m c cc nL s args Ts own) (hM : Met l y ws rm Pc Qc mc ms free) (cw : vx_CSW R s args own index y bytes maxL ret hh ws rm mc ms n) (hp : PreS s H Pc As)
    (hg : g.method = m) (hn : As.length = n) (hsize : g.locals.size = nL) (hstack : g.stack = As.reverse ++ rest) (hW : 2 * g.monitorRoom + (rest.map fun v => v.category).sum ≤ 8) (hdg : decode cc g.pc = .ok (.invokestatic index, 3)) (hf : cells + mc ≤ R.cells ∧ slots + ms ≤ R.slots) :
    va_Run p l e R s m args below meth c H locs cells slots mc ms g rest (Qc As.toArray) (free) := by
  obtain ⟨⟨hrc, hrs, hfr, hlo, hws, hcw⟩, hcode, hini, hy, hlen, hl, hstt⟩ := cw
  have hK : Back l R p e below s args y 3 8 (PreOf R mc ms Pc) (PostOf Qc mc ms free) := va_backW (hh := hh) (bytes := bytes) (maxL := maxL) (ret := ret) hM hp.1 hrc hrs hfr hlo hws hcw (fun a' U hW => word_at hW (Or.inl (by first | rfl | simp [Cond.onTables, Cond.keeps, Cond.steady])) hini)
  obtain ⟨hx, hb, hml, ho, -⟩ := S
  intro T hT X
  obtain ⟨v, vm₁, ⟨U', l2, c2, s2⟩, hW₁, X', ⟨g', mk, t, L, e1, e2, hq, h1, hL, h2, h3⟩, st⟩ := vx_callSW X hx (hh := hh) (bytes := bytes) (maxL := maxL) (ret := ret) ho hl hstt hini hcode hy hK hg (hsize.trans hml.symm) (argsL := As) (rest := rest) (fun sig h => hn.trans (hlen sig h)) hstack hW (by rw [hb]; exact hdg)
    (fun vm₁ hW₁ => ⟨hf.1, hf.2, hp.2 (T.setVm vm₁) hT hW₁⟩)
  dsimp only [Pt.U, Pt.locs, Pt.cells, Pt.slots] at X' e1 e2 h1 h2 h3 st
  subst h1; subst h2; subst h3
  exact ⟨v, (T.setVm vm₁).calling g' mk As.toArray, t, U', L, hT, X', hL, e1, e2, hq, st⟩
/-- not caught here, past rows that name other classes: it goes on to the caller -/
theorem vx_outP {p : Program} {l : Launch} {e : Env} {R : Room} {s : State} {m : MethodId} {args : Array Value} {below : List Frame} {meth : Method} {c : Code} {H : Heap} {locs : List Loc} {cells slots : Nat} {free : Addr → Prop} {ls : Array Slot} {rest : List Value} {Qc : Array Value → State → Outcome → State → Prop} {XC : String → State → State → Prop}
    {pc : Nat} {own E : String} {ce : Cell} {q : Addr} {mc ms : Nat} (hown : s.vm.findClass own = some m.cls) (hlocks : meth.locks = false)
    (hpass : ∀ z ∈ c.exceptionTable.toList, covers z pc = false ∨ (z.catchType ≠ 0 ∧ ∃ nm : String, (Cond.classLink own z.catchType nm).before args s = true ∧ va_Nc E nm s)) (hcell : H[q]? = some ce) (hv : ce.vm = .none) (hcl : s.vm.findClass E = some ce.cls)
    (hx : ∀ t : State, t.heap = H → s.vm.Alike t.vm → XC E s t) (hf : ∀ z ∈ locs, free z.base) (hc : cells ≤ mc) (hs : slots ≤ ms) :
    vx_W p l e R s m args below meth c H locs cells slots (vx_MQ below Qc XC args s mc ms free) (F0 m pc ls rest) q := by
  intro T hT X
  have hpl : e.platform.magicAccessors = ({} : Platform).magicAccessors := by rw [X.admits.platform]
  obtain ⟨vm', hW', X', st⟩ := X.outThrough hlocks q (g := F0 m pc ls rest) rfl rfl rfl (cell := ce) (by rw [hT]; exact hcell) (by rw [hv]; rfl)
    (by obtain ⟨k9, h9, -⟩ := Vm.findClass_spec hcl; exact ⟨k9, h9⟩) (fun z hz => by
      rcases hpass z hz with h | ⟨hz0, nm, hl1, hn1⟩
      · exact Or.inl h
      · obtain ⟨c6, hc6, hcl6⟩ := Cond.classLink_spec hown hl1 e.platform hpl
        obtain ⟨a8, b8, h1, h2, h3⟩ := hn1
        cases Option.some.inj (h1.symm.trans hcl)
        cases Option.some.inj (h2.symm.trans hc6)
        exact Or.inr ⟨hz0, _, hcl6, h3⟩)
  obtain ⟨g₀, hfr⟩ := X'.frames_eq
  have hcell9 : ((T.setVm vm').setFrames (.throwing q :: below)).heap[q]? = some ce := by
    show T.heap[q]? = some ce
    rw [hT]; exact hcell
  have hend : Ended ((T.setVm vm').setFrames (.throwing q :: below)) below (.threw q) := State.frames_setFrames _ (State.cur_lt_of_frames hfr)
  refine ⟨(T.setVm vm').setFrames (.throwing q :: below), ?_, .threw q, X'.here.running, hend, Or.inr ⟨q, rfl, E, ce, locs, hx _ hT (X'.ends _).1.alike, hcell9, hv, hcl, (X'.ends _).1, (X'.ends _).2.mono hc hs, hf⟩⟩
  rw [X.pushThrowing_eq]
  exact st
/-- a thing of a world lies in the heap -/
theorem vx_lt {D : va_G} {cl : List vw_C} {ws : va_W} {H1 : Heap} (h : va_P D cl ws H1) {k : Nat} {q : Nat × va_E} (hk : ws[k]? = some q) : q.1 < H1.size := (h k q hk).lt
end VXS
/-! ===== END ===== -/
/-! ===== BEGIN methods with a table of their own: called by a name, returning or throwing ===== -/
section VXH
/-! vx_backW, vx_callVX, vx_callSX, vx_callVW, vx_runVW, vx_runVX, vx_runSX, vx_ofWH follow the same proofs as their sisters above (Free/Laws.lean, Shelf42/LK1.lean); vx_outP calls Shelf42/NT130.lean (outThrough). -/
section
variable {l : Launch} {R : Room} {p : Program} {e : Env} {below : List Frame} {s : State} {sargs : Array Value} {y : MethodName} {len W9 : Nat}
theorem vx_backW {ws : List Cond} {rm : Room} {Pc : Array Value → State → Prop} {Qc : Array Value → State → Outcome → State → Prop} {XC : String → State → State → Prop} {mc ms : Nat} {free : Addr → Prop} {bytes : ByteArray} {maxL : Nat} {ret : Option FieldType} {hh : List (Nat × Nat × Nat × Nat)}
    (hM : vx_Met l y ws rm Pc Qc XC mc ms free) (hblind : FrameBlind Pc) (hrc : rm.cells = mc) (hrs : rm.slots = ms)
    (hframes : rm.frames + 1 ≤ R.frames) (hlocals : W9 + (maxL + 11) + rm.locals ≤ R.locals)
    (hws : ∀ w ∈ ws, ∀ a' U, s.WarmedH U.vm → w.before a' U = true) (hcode : Cond.codeWith y bytes maxL ret hh ∈ ws) (hinit : ∀ a' U, s.WarmedH U.vm → (Cond.initialized y.cls).before a' U = true) :
    vx_Back l R p e below s sargs y len W9 (PreOf R mc ms Pc) (PostOf Qc mc ms free) (vx_Post XC mc ms free) := by
  intro m meth c A g ig mk a X hg hsize hdg hW hn hp
  have h1 : (headSpec ws rm).pre.before a A.U = true := atoms_intro fun w hw => hws w hw _ _ X.warmed
  have h2 : (Cond.codeWith y bytes maxL ret hh).before a A.U = true := hws _ hcode _ _ X.warmed
  have h3 : (Cond.initialized y.cls).before a A.U = true := hinit _ _ X.warmed
  have h4 : A.cells + (headSpec ws rm).room.cells ≤ R.cells := by rw [show (headSpec ws rm).room.cells = mc from hrc]; exact hp.1
  have h5 : A.slots + (headSpec ws rm).room.slots ≤ R.slots := by rw [show (headSpec ws rm).room.slots = ms from hrs]; exact hp.2.1
  have hPc : Pc a (A.U.calling g mk a) := hblind _ _ _ _ hp.2.2
  obtain ⟨U, Ls, c0, s0⟩ := A
  dsimp only [Pt.U, Pt.locs, Pt.cells, Pt.slots] at h1 h2 h3 h4 h5 X hn hPc ⊢
  obtain ⟨m9, methY, cY, hn9, hmY, hcY, -, hlY, -⟩ := Cond.codeWith_spec h2
  cases Option.some.inj (hn9.symm.trans hn)
  obtain ⟨kY, hkY, -⟩ := className_of_methodNamed hn
  have hinitY : kY.init = .initialized := Cond.initialized_spec (findClass_of_methodNamed hn) hkY h3
  have h : At U g.method c below := by rw [hg]; exact X.here
  have hlocals9 : W9 + (maxL + 11) + (headSpec ws rm).room.locals ≤ R.locals := hlocals
  have happ : (headSpec ws rm).appliesLoose y e.platform (U.calling g mk a) = true :=
    Spec.appliesLoose_calling (g := g) h hdg hn hkY hinitY
      (X.room_calling (g := g) (R' := (headSpec ws rm).room) hsize hmY hcY hframes (by rw [hlY]; omega) h4 h5) h1
  obtain ⟨mid, hmid⟩ := h.above
  have hfr : (U.setTop g).frames = (.java g :: mid) ++ below := by rw [State.frames_setTop' g h.top, hmid]; rfl
  obtain ⟨o, s₂, hsteps, -, hend, hq⟩ := Steps.callFree hM p X.admits X.cas X.clock (acts := []) hfr happ hPc trivial
  have hq' : vx_Q Qc XC mc ms free a (U.calling g mk a) o s₂ := hq
  rw [State.frames_setTop' g h.top] at hend
  obtain ⟨g₀, hg0⟩ := Option.isSome_iff_exists.mp h.top
  obtain ⟨r, hr⟩ := State.topJava?_eq_some.mp hg0
  have hr' : (({ U with heap := s₂.heap, slotsUsed := s₂.slotsUsed } : State).setVm s₂.vm).frames = .java g₀ :: r := hr
  rcases hq' with ⟨hqc, L, hfe, hL⟩ | ⟨q, rfl, E, ce, L, hx, hce, hcv, hcl, hW₂, hsm, hL⟩
  · obtain ⟨⟨v, rfl⟩, hW₂, e2, q2, q3, q4, q5, q6⟩ := id hfe
    have e3 : s₂ = ({ (U.calling g mk a).setFrames s₂.frames with heap := s₂.heap, slotsUsed := s₂.slotsUsed } : State).setVm s₂.vm := by
      have : s₂ = ({ s₂ with vm := (U.calling g mk a).vm } : State).setVm s₂.vm := rfl
      rw [e2] at this
      exact this
    obtain ⟨c₂, i₂, len₂, hc₂, hd₂, hf₂⟩ := hend
    have hW' : U.WarmedH s₂.vm := hW₂
    have hcc : c₂ = c := by
      have h1 : s₂.code? g.method = U.code? g.method := by
        rw [State.code?_eq, State.code?_eq, hW'.alike.method?]
      exact Option.some.inj (hc₂.symm.trans (h1.trans h.code))
    subst hcc
    have hlen : len₂ = len := by rw [hdg] at hd₂; cases hd₂; rfl
    subst hlen
    have hs₂ : s₂ = (({ U with heap := s₂.heap, slotsUsed := s₂.slotsUsed } : State).setVm s₂.vm).setTop { g with pc := g.pc + len₂, stack := v.toList ++ g.stack } := by
      refine e3.trans ?_
      rw [hf₂, State.calling_eq h.top, State.setFrames_setFrames, State.setTop_of_frames _ hr', hr]
      rfl
    have hsame : U.sameButNew ({ U with heap := s₂.heap, slotsUsed := s₂.slotsUsed } : State) L mc ms := by
      refine ⟨?_, q2, q3, q4, q5, q6⟩
      obtain ⟨t, ht, -⟩ := State.frames_cons hr
      show ({ U with heap := s₂.heap, slotsUsed := s₂.slotsUsed } : State) = { U.setFrames U.frames with heap := s₂.heap, slotsUsed := s₂.slotsUsed }
      rw [State.setFrames_self ht]
    subst hg
    refine Or.inl ⟨v, ⟨(({ U with heap := s₂.heap, slotsUsed := s₂.slotsUsed } : State).setVm s₂.vm), Ls ++ L, c0 + mc, s0 + ms⟩,
      ⟨X.admits, X.cas, X.clock, X.frames, X.room, X.hears, X.method, X.code, (X.here.setHeapUsed s₂.heap s₂.slotsUsed).setVm hW'.alike, X.tail, State.WarmedH.trans X.warmed hW', X.limits, X.bytes, X.same.trans (hsame.setVm s.vm)⟩,
      ⟨g, mk, s₂, L, rfl, rfl, hqc, rfl, hL, rfl, rfl⟩, ?_⟩
    show Steps p.tables e below _ ((({ U with heap := s₂.heap, slotsUsed := s₂.slotsUsed } : State).setVm s₂.vm).setTop { g with pc := g.pc + len₂, stack := v.toList ++ g.stack })
    rw [← hs₂]
    exact hsteps
  · obtain ⟨e2, q2, q3, q4, q5, q6⟩ := id hsm
    have e3 : s₂ = ({ (U.calling g mk a).setFrames s₂.frames with heap := s₂.heap, slotsUsed := s₂.slotsUsed } : State).setVm s₂.vm := by
      have : s₂ = ({ s₂ with vm := (U.calling g mk a).vm } : State).setVm s₂.vm := rfl
      rw [e2] at this
      exact this
    have hf₂ : s₂.frames = .throwing q :: .java g :: U.frames.tail := hend
    have hW' : U.WarmedH s₂.vm := hW₂
    have hs₂ : s₂ = ((({ U with heap := s₂.heap, slotsUsed := s₂.slotsUsed } : State).setVm s₂.vm).setTop g).pushFrame (.throwing q) := by
      refine e3.trans ?_
      rw [hf₂, State.calling_eq h.top, State.setFrames_setFrames, State.pushFrame, State.frames_setTop _ hr', State.setTop_of_frames _ hr', State.setFrames_setFrames, hr]
      rfl
    have hsame : U.sameButNew ({ U with heap := s₂.heap, slotsUsed := s₂.slotsUsed } : State) L mc ms := by
      refine ⟨?_, q2, q3, q4, q5, q6⟩
      obtain ⟨t, ht, -⟩ := State.frames_cons hr
      show ({ U with heap := s₂.heap, slotsUsed := s₂.slotsUsed } : State) = { U.setFrames U.frames with heap := s₂.heap, slotsUsed := s₂.slotsUsed }
      rw [State.setFrames_self ht]
    subst hg
    refine Or.inr ⟨q, ⟨(({ U with heap := s₂.heap, slotsUsed := s₂.slotsUsed } : State).setVm s₂.vm), Ls ++ L, c0 + mc, s0 + ms⟩,
      ⟨X.admits, X.cas, X.clock, X.frames, X.room, X.hears, X.method, X.code, (X.here.setHeapUsed s₂.heap s₂.slotsUsed).setVm hW'.alike, X.tail, State.WarmedH.trans X.warmed hW', X.limits, X.bytes, X.same.trans (hsame.setVm s.vm)⟩,
      ⟨g, mk, s₂, L, E, ce, rfl, rfl, hx, hce, hcv, hcl, rfl, hL, rfl, rfl⟩, ?_⟩
    show Steps p.tables e below _ (((({ U with heap := s₂.heap, slotsUsed := s₂.slotsUsed } : State).setVm s₂.vm).setTop g).pushFrame (.throwing q))
    rw [← hs₂]
    exact hsteps
end
variable {p : Program} {l : Launch} {e : Env} {R : Room} {s : State} {m : MethodId} {args : Array Value} {below : List Frame} {meth : Method} {c : Code} {T : State} {H : Heap} {locs : List Loc} {cells slots : Nat}
theorem vx_callVX (X : Stand p l e R s m args below meth c T locs cells slots) (hexec : p.tables.exec = Jvm.exec) {own C : String} {index : Nat} {y : MethodName} {bytes : ByteArray} {maxL : Nat} {ret : Option FieldType} {hh : List (Nat × Nat × Nat × Nat)}
    (hown : s.vm.findClass own = some m.cls) (hlink : (Cond.methodLink own index y).before args s = true) (hinst : (Cond.instanceMethod y).before args s = true) (hsel : (Cond.selects C y y).before args s = true)
    (hcode : (Cond.codeWith y bytes maxL ret hh).before args s = true) (hy : y.cls ≠ "java/lang/invoke/MethodHandle" ∧ y.cls ≠ "java/lang/invoke/VarHandle")
    {W9 : Nat} {Pre : Pt → Array Value → Prop} {Post : Pt → Array Value → Option Value → Pt → Prop} {PostX : Pt → Array Value → Addr → Pt → Prop} (hK : vx_Back l R p e below s args y 3 W9 Pre Post PostX)
    {b : Addr} {cellB : Cell} (hcell : T.heap[b]? = some cellB) (hobj : cellB.vm.isStatics = false) (hcls : s.vm.findClass C = some cellB.cls)
    {g : JFrame} (hg : g.method = m) (hsize : g.locals.size = c.maxLocals) {argsL rest : List Value} (hlen : ∀ sig, parseMethodDescriptor y.desc = some sig → argsL.length = sig.parameters.length)
    (hstack : g.stack = argsL.reverse ++ .ref b :: rest) (hW : 2 * g.monitorRoom + (rest.map fun v => v.category).sum ≤ W9) (hdg : decode c.code g.pc = .ok (.invokevirtual index, 3))
    (hpre : ∀ vm₁, s.WarmedH vm₁ → Pre ⟨T.setVm vm₁, locs, cells, slots⟩ (Value.ref b :: argsL).toArray) :
    (∃ (v : Option Value) (vm₁ : Vm) (B : Pt), s.WarmedH vm₁ ∧ Stand p l e R s m args below meth c B.U B.locs B.cells B.slots ∧ Post ⟨T.setVm vm₁, locs, cells, slots⟩ (Value.ref b :: argsL).toArray v B ∧
      ∀ target, Steps p.tables e below (B.U.setTop { g with pc := g.pc + 3, stack := v.toList ++ rest }) target → Steps p.tables e below (T.setTop g) target) ∨
    (∃ (q : Addr) (vm₁ : Vm) (B : Pt), s.WarmedH vm₁ ∧ Stand p l e R s m args below meth c B.U B.locs B.cells B.slots ∧ PostX ⟨T.setVm vm₁, locs, cells, slots⟩ (Value.ref b :: argsL).toArray q B ∧
      Steps p.tables e below (T.setTop g) ((B.U.setTop { g with stack := rest }).pushFrame (.throwing q))) := by
  obtain ⟨mk, methM, hnamed, hmethM, hstM, habM⟩ := Cond.instanceMethod_spec hinst
  obtain ⟨m8, methM', cM, hn8, hmethM', -, -, -, -, -, -, hsigM⟩ := Cond.codeWith_spec hcode
  cases Option.some.inj (hn8.symm.trans hnamed)
  cases hmethM.symm.trans hmethM'
  obtain ⟨c2, r2, m2, q1, q2, q3, q4, kP, hkP, hkPi⟩ := Cond.selects_spec hsel
  cases hcls.symm.trans q1
  cases (State.methodFound?_of_named hnamed hy).symm.trans q2
  cases hnamed.symm.trans q3
  have hselP : selectMethod e.platform s.vm cellB.cls mk = .method mk := by rw [Launch.admits_selectMethod X.admits]; exact q4
  obtain ⟨vm₁, X₁, hstep₁⟩ := X.invokevirtual hexec hown hlink hnamed hmethM hstM hkP hkPi hy (a := b) (cell := cellB) hcell
    (fun z h => by rw [h] at hobj; cases hobj) hselP hmethM habM hkP hkPi (g := g) hg (argsL := argsL) (rest := rest) (hlen _ hsigM) hstack hdg
  rcases hK m meth c ⟨T.setVm vm₁, locs, cells, slots⟩ { g with stack := rest } (.invokevirtual index) mk (Value.ref b :: argsL).toArray X₁ hg hsize hdg hW (X₁.named hnamed) (hpre vm₁ X₁.warmed) with ⟨v, B, X', hpost, hsteps⟩ | ⟨q, B, X', hpost, hsteps⟩
  · exact Or.inl ⟨v, vm₁, B, X₁.warmed, X', hpost, fun target h => hstep₁ _ fun acts => by rw [doInvoke_state]; exact hsteps.trans h⟩
  · exact Or.inr ⟨q, vm₁, B, X₁.warmed, X', hpost, hstep₁ _ fun acts => by rw [doInvoke_state]; exact hsteps⟩
theorem vx_callSX (X : Stand p l e R s m args below meth c T locs cells slots) (hexec : p.tables.exec = Jvm.exec) {own : String} {index : Nat} {y : MethodName} {bytes : ByteArray} {maxL : Nat} {ret : Option FieldType} {hh : List (Nat × Nat × Nat × Nat)}
    (hown : s.vm.findClass own = some m.cls) (hlink : (Cond.methodLink own index y).before args s = true) (hstat : (Cond.static y).before args s = true) (hinit : (Cond.initialized y.cls).before args s = true)
    (hcode : (Cond.codeWith y bytes maxL ret hh).before args s = true) (hy : y.cls ≠ "java/lang/invoke/MethodHandle" ∧ y.cls ≠ "java/lang/invoke/VarHandle")
    {W9 : Nat} {Pre : Pt → Array Value → Prop} {Post : Pt → Array Value → Option Value → Pt → Prop} {PostX : Pt → Array Value → Addr → Pt → Prop} (hK : vx_Back l R p e below s args y 3 W9 Pre Post PostX)
    {g : JFrame} (hg : g.method = m) (hsize : g.locals.size = c.maxLocals) {argsL rest : List Value} (hlen : ∀ sig, parseMethodDescriptor y.desc = some sig → argsL.length = sig.parameters.length)
    (hstack : g.stack = argsL.reverse ++ rest) (hW : 2 * g.monitorRoom + (rest.map fun v => v.category).sum ≤ W9) (hdg : decode c.code g.pc = .ok (.invokestatic index, 3))
    (hpre : ∀ vm₁, s.WarmedH vm₁ → Pre ⟨T.setVm vm₁, locs, cells, slots⟩ argsL.toArray) :
    (∃ (v : Option Value) (vm₁ : Vm) (B : Pt), s.WarmedH vm₁ ∧ Stand p l e R s m args below meth c B.U B.locs B.cells B.slots ∧ Post ⟨T.setVm vm₁, locs, cells, slots⟩ argsL.toArray v B ∧
      ∀ target, Steps p.tables e below (B.U.setTop { g with pc := g.pc + 3, stack := v.toList ++ rest }) target → Steps p.tables e below (T.setTop g) target) ∨
    (∃ (q : Addr) (vm₁ : Vm) (B : Pt), s.WarmedH vm₁ ∧ Stand p l e R s m args below meth c B.U B.locs B.cells B.slots ∧ PostX ⟨T.setVm vm₁, locs, cells, slots⟩ argsL.toArray q B ∧
      Steps p.tables e below (T.setTop g) ((B.U.setTop { g with stack := rest }).pushFrame (.throwing q))) := by
  obtain ⟨mk, methM, cM, hnamed, hmethM, -, -, -, -, -, -, hsigM⟩ := Cond.codeWith_spec hcode
  have hstatic : methM.isStatic = true := Cond.static_spec hnamed hmethM hstat
  obtain ⟨kP, hkP, -⟩ := className_of_methodNamed hnamed
  have hinitP : kP.init = .initialized := Cond.initialized_spec (findClass_of_methodNamed hnamed) hkP hinit
  obtain ⟨vm₁, X₁, hstep₁⟩ := X.invokestatic hexec hown hlink hnamed hmethM hstatic hkP hinitP hy (g := g) hg (argsL := argsL) (rest := rest) (hlen _ hsigM) hstack hdg
  rcases hK m meth c ⟨T.setVm vm₁, locs, cells, slots⟩ { g with stack := rest } (.invokestatic index) mk argsL.toArray X₁ hg hsize hdg hW (X₁.named hnamed) (hpre vm₁ X₁.warmed) with ⟨v, B, X', hpost, hsteps⟩ | ⟨q, B, X', hpost, hsteps⟩
  · exact Or.inl ⟨v, vm₁, B, X₁.warmed, X', hpost, fun target h => hstep₁ _ fun acts => by rw [doInvoke_state]; exact hsteps.trans h⟩
  · exact Or.inr ⟨q, vm₁, B, X₁.warmed, X', hpost, hstep₁ _ fun acts => by rw [doInvoke_state]; exact hsteps⟩
theorem vx_callVW (X : Stand p l e R s m args below meth c T locs cells slots) (hexec : p.tables.exec = Jvm.exec) {own C : String} {index : Nat} {y : MethodName} {bytes : ByteArray} {maxL : Nat} {ret : Option FieldType} {hh : List (Nat × Nat × Nat × Nat)}
    (hown : s.vm.findClass own = some m.cls) (hlink : (Cond.methodLink own index y).before args s = true) (hinst : (Cond.instanceMethod y).before args s = true) (hsel : (Cond.selects C y y).before args s = true)
    (hcode : (Cond.codeWith y bytes maxL ret hh).before args s = true) (hy : y.cls ≠ "java/lang/invoke/MethodHandle" ∧ y.cls ≠ "java/lang/invoke/VarHandle")
    {W9 : Nat} {Pre : Pt → Array Value → Prop} {Post : Pt → Array Value → Option Value → Pt → Prop} (hK : Back l R p e below s args y 3 W9 Pre Post)
    {b : Addr} {cellB : Cell} (hcell : T.heap[b]? = some cellB) (hobj : cellB.vm.isStatics = false) (hcls : s.vm.findClass C = some cellB.cls)
    {g : JFrame} (hg : g.method = m) (hsize : g.locals.size = c.maxLocals) {argsL rest : List Value} (hlen : ∀ sig, parseMethodDescriptor y.desc = some sig → argsL.length = sig.parameters.length)
    (hstack : g.stack = argsL.reverse ++ .ref b :: rest) (hW : 2 * g.monitorRoom + (rest.map fun v => v.category).sum ≤ W9) (hdg : decode c.code g.pc = .ok (.invokevirtual index, 3))
    (hpre : ∀ vm₁, s.WarmedH vm₁ → Pre ⟨T.setVm vm₁, locs, cells, slots⟩ (Value.ref b :: argsL).toArray) :
    ∃ (v : Option Value) (vm₁ : Vm) (B : Pt), s.WarmedH vm₁ ∧ Stand p l e R s m args below meth c B.U B.locs B.cells B.slots ∧ Post ⟨T.setVm vm₁, locs, cells, slots⟩ (Value.ref b :: argsL).toArray v B ∧
      ∀ target, Steps p.tables e below (B.U.setTop { g with pc := g.pc + 3, stack := v.toList ++ rest }) target → Steps p.tables e below (T.setTop g) target := by
  obtain ⟨mk, methM, hnamed, hmethM, hstM, habM⟩ := Cond.instanceMethod_spec hinst
  obtain ⟨m8, methM', cM, hn8, hmethM', -, -, -, -, -, -, hsigM⟩ := Cond.codeWith_spec hcode
  cases Option.some.inj (hn8.symm.trans hnamed)
  cases hmethM.symm.trans hmethM'
  obtain ⟨c2, r2, m2, q1, q2, q3, q4, kP, hkP, hkPi⟩ := Cond.selects_spec hsel
  cases hcls.symm.trans q1
  cases (State.methodFound?_of_named hnamed hy).symm.trans q2
  cases hnamed.symm.trans q3
  have hselP : selectMethod e.platform s.vm cellB.cls mk = .method mk := by rw [Launch.admits_selectMethod X.admits]; exact q4
  obtain ⟨vm₁, X₁, hstep₁⟩ := X.invokevirtual hexec hown hlink hnamed hmethM hstM hkP hkPi hy (a := b) (cell := cellB) hcell
    (fun z h => by rw [h] at hobj; cases hobj) hselP hmethM habM hkP hkPi (g := g) hg (argsL := argsL) (rest := rest) (hlen _ hsigM) hstack hdg
  obtain ⟨v, B, X', hpost, hsteps⟩ := hK m meth c ⟨T.setVm vm₁, locs, cells, slots⟩ { g with stack := rest } (.invokevirtual index) mk (Value.ref b :: argsL).toArray X₁ hg hsize hdg hW (X₁.named hnamed) (hpre vm₁ X₁.warmed)
  exact ⟨v, vm₁, B, X₁.warmed, X', hpost, fun target h => hstep₁ _ fun acts => by rw [doInvoke_state]; exact hsteps.trans h⟩
abbrev vx_CVW (R : Room) (s : State) (args : Array Value) (own C : String) (index : Nat) (y : MethodName) (bytes : ByteArray) (maxL : Nat) (ret : Option FieldType) (hh : List (Nat × Nat × Nat × Nat)) (ws : List Cond) (rm : Room) (mc ms n : Nat) : Prop :=
  (rm.cells = mc ∧ rm.slots = ms ∧ rm.frames + 1 ≤ R.frames ∧ 8 + (maxL + 11) + rm.locals ≤ R.locals ∧ (∀ w ∈ ws, ∀ (a' : Array Value) (U : State), s.WarmedH U.vm → w.before a' U = true) ∧ Cond.codeWith y bytes maxL ret hh ∈ ws) ∧
  (Cond.codeWith y bytes maxL ret hh).before args s = true ∧ (Cond.initialized y.cls).before args s = true ∧ (y.cls ≠ "java/lang/invoke/MethodHandle" ∧ y.cls ≠ "java/lang/invoke/VarHandle") ∧
  (∀ sig, parseMethodDescriptor y.desc = some sig → n = sig.parameters.length) ∧ (Cond.methodLink own index y).before args s = true ∧ (Cond.instanceMethod y).before args s = true ∧ (Cond.selects C y y).before args s = true
theorem vx_cwVW {own C : String} {index maxL mc ms : Nat} {y : MethodName} {bytes : ByteArray} {ret : Option FieldType} {hh : List (Nat × Nat × Nat × Nat)} {Ts ws ws' : List Cond} {rm : Room} (n : Nat) (ht : ∀ w ∈ Ts, w.before args s = true) (hT : GoodIn Ts (wsV own index C y ws)) (hw : ws = Cond.codeWith y bytes maxL ret hh :: ws') (hrc : rm.cells = mc) (hrs : rm.slots = ms)
    (hd : y.cls = C ∧ y.cls ≠ "java/lang/invoke/MethodHandle" ∧ y.cls ≠ "java/lang/invoke/VarHandle" ∧ (parseMethodDescriptor y.desc).map (fun d => d.parameters.length) = some n) (hR : rm.frames + 1 ≤ R.frames ∧ 8 + (maxL + 11) + rm.locals ≤ R.locals) :
    vx_CVW R s args own C index y bytes maxL ret hh ws rm mc ms n := by
  obtain ⟨hC, hd⟩ := hd
  subst hC
  have ok : ∀ w ∈ wsV own index y.cls y ws, w.before args s = true := fun w h => ht w (hT w h).1
  have hG : GoodIn Ts ws := fun w h => hT w (by unfold wsV; exact List.mem_append_right _ h)
  have hc : Cond.codeWith y bytes maxL ret hh ∈ ws := by rw [hw]; exact List.mem_cons_self
  refine ⟨⟨hrc, hrs, hR.1, hR.2, pay_in ht hG, hc⟩, ht _ (hG _ hc).1, ok _ (by simp [wsV]), ⟨hd.1, hd.2.1⟩, fun sig h => ?_, ok _ (by simp [wsV]), ok _ (by simp [wsV]), ok _ (by simp [wsV])⟩
  have h2 := hd.2.2
  rw [h] at h2
  exact (Option.some.inj h2).symm
theorem vx_runVW {y : MethodName} {bytes cc : ByteArray} {maxL nL mc ms n index : Nat} {ret : Option FieldType} {hh : List (Nat × Nat × Nat × Nat)} {ws : List Cond} {rm : Room} {Pc : Array Value → State → Prop} {Qc : Array Value → State → Outcome → State → Prop} {free : Addr → Prop} {Ts : List Cond} {own C : String} {b : Addr} {As rest : List Value} {g : JFrame}
    (S : CallFix p m c cc nL s args Ts own) (hM : Met l y ws rm Pc Qc mc ms free) (cw : vx_CVW R s args own C index y bytes maxL ret hh ws rm mc ms n) (hp : PreV s H C b Pc As)
    (hg : g.method = m) (hn : As.length = n) (hsize : g.locals.size = nL) (hstack : g.stack = As.reverse ++ .ref b :: rest) (hW : 2 * g.monitorRoom + (rest.map fun v => v.category).sum ≤ 8) (hdg : decode cc g.pc = .ok (.invokevirtual index, 3)) (hf : cells + mc ≤ R.cells ∧ slots + ms ≤ R.slots) :
    va_Run p l e R s m args below meth c H locs cells slots mc ms g rest (Qc (Value.ref b :: As).toArray) free := by
  obtain ⟨⟨hrc, hrs, hfr, hlo, hws, hcw⟩, hcode, hini, hy, hlen, hl, hin, hse⟩ := cw
  have hK : Back l R p e below s args y 3 8 (PreOf R mc ms Pc) (PostOf Qc mc ms free) := va_backW (hh := hh) (bytes := bytes) (maxL := maxL) (ret := ret) hM hp.1 hrc hrs hfr hlo hws hcw (fun a' U hW => word_at hW (Or.inl (by first | rfl | simp [Cond.onTables, Cond.keeps, Cond.steady])) hini)
  obtain ⟨hx, hb, hml, ho, -⟩ := S
  obtain ⟨-, ⟨cellB, hcB, hoB, hclB⟩, hPc⟩ := hp
  intro T hT X
  obtain ⟨v, vm₁, ⟨U', l2, c2, s2⟩, hW₁, X', ⟨g', mk, t, L, e1, e2, hq, h1, hL, h2, h3⟩, st⟩ := vx_callVW X hx (C := C) (hh := hh) (bytes := bytes) (maxL := maxL) (ret := ret) ho hl hin hse hcode hy hK (by rw [hT]; exact hcB) hoB hclB hg (hsize.trans hml.symm) (argsL := As) (rest := rest) (fun sig h => hn.trans (hlen sig h)) hstack hW (by rw [hb]; exact hdg)
    (fun vm₁ hW₁ => ⟨hf.1, hf.2, hPc (T.setVm vm₁) hT hW₁⟩)
  dsimp only [Pt.U, Pt.locs, Pt.cells, Pt.slots] at X' e1 e2 h1 h2 h3 st
  subst h1; subst h2; subst h3
  exact ⟨v, (T.setVm vm₁).calling g' mk (Value.ref b :: As).toArray, t, U', L, hT, X', hL, e1, e2, hq, st⟩
section
variable {y : MethodName} {bytes cc : ByteArray} {maxL nL mc ms n index : Nat} {ret : Option FieldType} {ws : List Cond} {rm : Room} {Pc : Array Value → State → Prop} {Qc : Array Value → State → Outcome → State → Prop} {XC : String → State → State → Prop} {free : Addr → Prop} {Ts : List Cond} {own C : String} {b : Addr} {As rest : List Value} {g : JFrame}
theorem vx_runVX {hh : List (Nat × Nat × Nat × Nat)} (S : CallFix p m c cc nL s args Ts own) (hM : vx_Met l y ws rm Pc Qc XC mc ms free) (cw : vx_CVW R s args own C index y bytes maxL ret hh ws rm mc ms n) (hp : PreV s H C b Pc As)
    (hg : g.method = m) (hn : As.length = n) (hsize : g.locals.size = nL) (hstack : g.stack = As.reverse ++ .ref b :: rest) (hW : 2 * g.monitorRoom + (rest.map fun v => v.category).sum ≤ 8) (hdg : decode cc g.pc = .ok (.invokevirtual index, 3)) (hf : cells + mc ≤ R.cells ∧ slots + ms ≤ R.slots) :
    vx_Run p l e R s m args below meth c H locs cells slots mc ms g rest (Qc (Value.ref b :: As).toArray) XC free := by
  obtain ⟨⟨hrc, hrs, hfr, hlo, hws, hcw⟩, hcode, hini, hy, hlen, hl, hin, hse⟩ := cw
  have hK : vx_Back l R p e below s args y 3 8 (PreOf R mc ms Pc) (PostOf Qc mc ms free) (vx_Post XC mc ms free) := vx_backW (hh := hh) (bytes := bytes) (maxL := maxL) (ret := ret) hM hp.1 hrc hrs hfr hlo hws hcw (fun a' U hW => word_at hW (Or.inl (by first | rfl | simp [Cond.onTables, Cond.keeps, Cond.steady])) hini)
  obtain ⟨hx, hb, hml, ho, -⟩ := S
  obtain ⟨-, ⟨cellB, hcB, hoB, hclB⟩, hPc⟩ := hp
  intro T hT X
  rcases vx_callVX X hx (C := C) (hh := hh) (bytes := bytes) (maxL := maxL) (ret := ret) ho hl hin hse hcode hy hK (by rw [hT]; exact hcB) hoB hclB hg (hsize.trans hml.symm) (argsL := As) (rest := rest) (fun sig h => hn.trans (hlen sig h)) hstack hW (by rw [hb]; exact hdg)
    (fun vm₁ hW₁ => ⟨hf.1, hf.2, hPc (T.setVm vm₁) hT hW₁⟩) with ⟨v, vm₁, ⟨U', l2, c2, s2⟩, hW₁, X', ⟨g', mk, t, L, e1, e2, hq, h1, hL, h2, h3⟩, st⟩ | ⟨q, vm₁, ⟨U', l2, c2, s2⟩, hW₁, X', ⟨g', mk, t, L, E, ce, e1, e2, hq, hce, hcv, hcl, h1, hL, h2, h3⟩, st⟩
  · dsimp only [Pt.U, Pt.locs, Pt.cells, Pt.slots] at X' e1 e2 h1 h2 h3 st
    subst h1; subst h2; subst h3
    exact Or.inl ⟨v, (T.setVm vm₁).calling g' mk (Value.ref b :: As).toArray, t, U', L, hT, X', hL, e1, e2, hq, st⟩
  · dsimp only [Pt.U, Pt.locs, Pt.cells, Pt.slots] at X' e1 e2 h1 h2 h3 st hcl
    subst h1; subst h2; subst h3
    exact Or.inr ⟨q, (T.setVm vm₁).calling g' mk (Value.ref b :: As).toArray, t, U', L, E, ce, hT, X', hL, e1, e2, hq, hce, hcv, vx_cls hW₁ hcl, st⟩
theorem vx_runSX {hh : List (Nat × Nat × Nat × Nat)} (S : CallFix p m c cc nL s args Ts own) (hM : vx_Met l y ws rm Pc Qc XC mc ms free) (cw : vx_CSW R s args own index y bytes maxL ret hh ws rm mc ms n) (hp : PreS s H Pc As)
    (hg : g.method = m) (hn : As.length = n) (hsize : g.locals.size = nL) (hstack : g.stack = As.reverse ++ rest) (hW : 2 * g.monitorRoom + (rest.map fun v => v.category).sum ≤ 8) (hdg : decode cc g.pc = .ok (.invokestatic index, 3)) (hf : cells + mc ≤ R.cells ∧ slots + ms ≤ R.slots) :
    vx_Run p l e R s m args below meth c H locs cells slots mc ms g rest (Qc As.toArray) XC free := by
  obtain ⟨⟨hrc, hrs, hfr, hlo, hws, hcw⟩, hcode, hini, hy, hlen, hl, hstt⟩ := cw
  have hK : vx_Back l R p e below s args y 3 8 (PreOf R mc ms Pc) (PostOf Qc mc ms free) (vx_Post XC mc ms free) := vx_backW (hh := hh) (bytes := bytes) (maxL := maxL) (ret := ret) hM hp.1 hrc hrs hfr hlo hws hcw (fun a' U hW => word_at hW (Or.inl (by first | rfl | simp [Cond.onTables, Cond.keeps, Cond.steady])) hini)
  obtain ⟨hx, hb, hml, ho, -⟩ := S
  intro T hT X
  rcases vx_callSX X hx (hh := hh) (bytes := bytes) (maxL := maxL) (ret := ret) ho hl hstt hini hcode hy hK hg (hsize.trans hml.symm) (argsL := As) (rest := rest) (fun sig h => hn.trans (hlen sig h)) hstack hW (by rw [hb]; exact hdg)
    (fun vm₁ hW₁ => ⟨hf.1, hf.2, hp.2 (T.setVm vm₁) hT hW₁⟩) with ⟨v, vm₁, ⟨U', l2, c2, s2⟩, hW₁, X', ⟨g', mk, t, L, e1, e2, hq, h1, hL, h2, h3⟩, st⟩ | ⟨q, vm₁, ⟨U', l2, c2, s2⟩, hW₁, X', ⟨g', mk, t, L, E, ce, e1, e2, hq, hce, hcv, hcl, h1, hL, h2, h3⟩, st⟩
  · dsimp only [Pt.U, Pt.locs, Pt.cells, Pt.slots] at X' e1 e2 h1 h2 h3 st
    subst h1; subst h2; subst h3
    exact Or.inl ⟨v, (T.setVm vm₁).calling g' mk As.toArray, t, U', L, hT, X', hL, e1, e2, hq, st⟩
  · dsimp only [Pt.U, Pt.locs, Pt.cells, Pt.slots] at X' e1 e2 h1 h2 h3 st hcl
    subst h1; subst h2; subst h3
    exact Or.inr ⟨q, (T.setVm vm₁).calling g' mk As.toArray, t, U', L, E, ce, hT, X', hL, e1, e2, hq, hce, hcv, vx_cls hW₁ hcl, st⟩
end
end VXH
theorem vx_ofWH {l : Launch} {y : MethodName} {ws ws' : List Cond} {rm : Room} {Pc : Array Value → State → Prop} {Qc : Array Value → State → Outcome → State → Prop} {XC : String → State → State → Prop} {mc ms : Nat} {free : Addr → Prop} {cc : ByteArray} {maxL : Nat} {ret : Option FieldType} {hh : List (Nat × Nat × Nat × Nat)}
    (hy : plainName y.cls = true) (hw : ws = Cond.codeWith y cc maxL ret hh :: ws')
    (body : ∀ p e s m args below meth c s₁, BodyLoose p l y (headSpec ws rm) cc maxL ret e s m args below meth c s₁ → c.maxLocals = maxL → Pc args s →
      W p l e (headSpec ws rm).room s m args below meth c s.heap [] 0 0 (vx_MQ below Qc XC args s mc ms free) (entryFrame m args maxL)) : vx_Met l y ws rm Pc Qc XC mc ms free := by
  refine MetFree.of_bodyS (code := cc) (maxLocals := maxL) (ret := ret) hy ?_ ?_
  · intro args s m h hn
    obtain ⟨m9, meth, c, hn9, h1, h2, h3, h4, -, h5, h6, -⟩ := Cond.codeWith_spec (atoms_spec (ws := ws) h _ (by rw [hw]; exact List.mem_cons_self))
    cases hn.symm.trans hn9
    exact ⟨meth, c, h1, h2, h3, h4, h5, h6⟩
  · intro p e s m args below meth c s₁ B hml hP _
    have hh0 : s₁.heap = s.heap := by rw [B.state]; rfl
    obtain ⟨t, a1, o, b1, b2, b3⟩ := body p e s m args below meth c s₁ B hml hP s₁ hh0 (Stand.of_body B)
    exact ⟨t, o, a1, b1, b2, b3⟩
/-! ===== END ===== -/

/-! ===== BEGIN printed: names, fields, word lists, decode rows ===== -/
def RX0 : String := "Gladehall$Battle"
def TX0 : u_T := fun k => match k with
  | 0 => ("Gladehall$Battle", "first", "LGladehall$Side;", true)
  | 1 => ("Gladehall$Battle", "second", "LGladehall$Side;", true)
  | 2 => ("Gladehall$Battle", "struckPlaces", "[I", true)
  | 3 => ("Gladehall$Battle", "struckHealths", "[I", true)
  | _ => ("Gladehall$Battle", "blowsStruck", "I", false)
def tyX0 : Nat → FieldType := fun k => match k with
  | 0 => .object "Gladehall$Side"
  | 1 => .object "Gladehall$Side"
  | 2 => .array .int
  | 3 => .array .int
  | _ => .int
abbrev wsX00 : List Cond := u_ws RX0 TX0 5
theorem nmX0 : ∀ a, a < 5 → ∀ b, b < 5 → a ≠ b → (TX0 a).2.1 ≠ (TX0 b).2.1 := by decide +kernel
theorem tyX0_ok : ∀ k, k < 5 → parseFieldDescriptor (TX0 k).2.2.1 = some (tyX0 k) := by decide +kernel
abbrev cX0_init : ByteArray := prog_2_method_1_code
def yX0_init : MethodName := ⟨RX0, "<init>", "()V"⟩
abbrev cX0_muster : ByteArray := prog_2_method_2_code
def yX0_muster : MethodName := ⟨RX0, "muster", "(LGladehall$UnitRow;LGladehall$UnitRow;)V"⟩
abbrev cX0_fightOut : ByteArray := prog_2_method_3_code
def yX0_fightOut : MethodName := ⟨RX0, "fightOut", "()V"⟩
abbrev cX0_redo : ByteArray := prog_2_method_4_code
def yX0_redo : MethodName := ⟨RX0, "redo", "()V"⟩
abbrev cX0_result : ByteArray := prog_2_method_5_code
def yX0_result : MethodName := ⟨RX0, "result", "()I"⟩
def RX1 : String := "Gladehall$Numbers"
def TX1 : u_T := fun k => match k with
  | 0 => ("Gladehall$Numbers", "ring", "[I", true)
  | 1 => ("Gladehall$Numbers", "first", "I", false)
  | _ => ("Gladehall$Numbers", "left", "I", false)
def tyX1 : Nat → FieldType := fun k => match k with
  | 0 => .array .int
  | 1 => .int
  | _ => .int
abbrev wsX10 : List Cond := u_ws RX1 TX1 3
theorem nmX1 : ∀ a, a < 3 → ∀ b, b < 3 → a ≠ b → (TX1 a).2.1 ≠ (TX1 b).2.1 := by decide +kernel
theorem tyX1_ok : ∀ k, k < 3 → parseFieldDescriptor (TX1 k).2.2.1 = some (tyX1 k) := by decide +kernel
abbrev cX1_init : ByteArray := prog_3_method_1_code
def yX1_init : MethodName := ⟨RX1, "<init>", "()V"⟩
abbrev cX1_append : ByteArray := prog_3_method_2_code
def yX1_append : MethodName := ⟨RX1, "append", "(I)Z"⟩
abbrev cX1_take : ByteArray := prog_3_method_3_code
def yX1_take : MethodName := ⟨RX1, "take", "()I"⟩
def RX2 : String := "Gladehall$Player"
def TX2 : u_T := fun k => match k with
  | 0 => ("Gladehall$Player", "gold", "I", false)
  | 1 => ("Gladehall$Player", "level", "I", false)
  | 2 => ("Gladehall$Player", "health", "I", false)
  | 3 => ("Gladehall$Player", "streak", "I", false)
  | 4 => ("Gladehall$Player", "locked", "Z", false)
  | 5 => ("Gladehall$Player", "shop", "[I", true)
  | 6 => ("Gladehall$Player", "bench", "LGladehall$UnitRow;", true)
  | _ => ("Gladehall$Player", "board", "LGladehall$UnitRow;", true)
def tyX2 : Nat → FieldType := fun k => match k with
  | 0 => .int
  | 1 => .int
  | 2 => .int
  | 3 => .int
  | 4 => .boolean
  | 5 => .array .int
  | 6 => .object "Gladehall$UnitRow"
  | _ => .object "Gladehall$UnitRow"
abbrev wsX20 : List Cond := u_ws RX2 TX2 8
theorem nmX2 : ∀ a, a < 8 → ∀ b, b < 8 → a ≠ b → (TX2 a).2.1 ≠ (TX2 b).2.1 := by decide +kernel
theorem tyX2_ok : ∀ k, k < 8 → parseFieldDescriptor (TX2 k).2.2.1 = some (tyX2 k) := by decide +kernel
abbrev cX2_init : ByteArray := prog_4_method_1_code
def yX2_init : MethodName := ⟨RX2, "<init>", "()V"⟩
abbrev cX2_addGold : ByteArray := prog_4_method_2_code
def yX2_addGold : MethodName := ⟨RX2, "addGold", "(I)V"⟩
abbrev cX2_earn : ByteArray := prog_4_method_3_code
def yX2_earn : MethodName := ⟨RX2, "earn", "()V"⟩
abbrev cX2_win : ByteArray := prog_4_method_4_code
def yX2_win : MethodName := ⟨RX2, "win", "()V"⟩
abbrev cX2_lose : ByteArray := prog_4_method_5_code
def yX2_lose : MethodName := ⟨RX2, "lose", "(I)V"⟩
abbrev cX2_unitsHeld : ByteArray := prog_4_method_6_code
def yX2_unitsHeld : MethodName := ⟨RX2, "unitsHeld", "(I)I"⟩
abbrev cX2_mergeThrees : ByteArray := prog_4_method_7_code
def yX2_mergeThrees : MethodName := ⟨RX2, "mergeThrees", "()V"⟩
abbrev cX2_mergeFirstThree : ByteArray := prog_4_method_8_code
def yX2_mergeFirstThree : MethodName := ⟨RX2, "mergeFirstThree", "()Z"⟩
abbrev cX2_mergeThree : ByteArray := prog_4_method_9_code
def yX2_mergeThree : MethodName := ⟨RX2, "mergeThree", "(II)V"⟩
abbrev cX2_rowOfFirst : ByteArray := prog_4_method_10_code
def yX2_rowOfFirst : MethodName := ⟨RX2, "rowOfFirst", "(II)LGladehall$UnitRow;"⟩
def RX3 : String := "Gladehall$Pool"
def TX3 : u_T := fun k => match k with
  | _ => ("Gladehall$Pool", "units", "[I", true)
def tyX3 : Nat → FieldType := fun k => match k with
  | _ => .array .int
abbrev wsX30 : List Cond := u_ws RX3 TX3 1
theorem nmX3 : ∀ a, a < 1 → ∀ b, b < 1 → a ≠ b → (TX3 a).2.1 ≠ (TX3 b).2.1 := by decide +kernel
theorem tyX3_ok : ∀ k, k < 1 → parseFieldDescriptor (TX3 k).2.2.1 = some (tyX3 k) := by decide +kernel
abbrev cX3_init : ByteArray := prog_5_method_1_code
def yX3_init : MethodName := ⟨RX3, "<init>", "()V"⟩
abbrev cX3_putBack : ByteArray := prog_5_method_2_code
def yX3_putBack : MethodName := ⟨RX3, "putBack", "(II)V"⟩
abbrev cX3_unitsUpTo : ByteArray := prog_5_method_3_code
def yX3_unitsUpTo : MethodName := ⟨RX3, "unitsUpTo", "(I)I"⟩
abbrev cX3_draw : ByteArray := prog_5_method_4_code
def yX3_draw : MethodName := ⟨RX3, "draw", "(II)I"⟩
def RX4 : String := "Gladehall$Side"
def TX4 : u_T := fun k => match k with
  | 0 => ("Gladehall$Side", "healths", "[I", true)
  | 1 => ("Gladehall$Side", "strengths", "[I", true)
  | 2 => ("Gladehall$Side", "size", "I", false)
  | _ => ("Gladehall$Side", "next", "I", false)
def tyX4 : Nat → FieldType := fun k => match k with
  | 0 => .array .int
  | 1 => .array .int
  | 2 => .int
  | _ => .int
abbrev wsX40 : List Cond := u_ws RX4 TX4 4
theorem nmX4 : ∀ a, a < 4 → ∀ b, b < 4 → a ≠ b → (TX4 a).2.1 ≠ (TX4 b).2.1 := by decide +kernel
theorem tyX4_ok : ∀ k, k < 4 → parseFieldDescriptor (TX4 k).2.2.1 = some (tyX4 k) := by decide +kernel
abbrev cX4_init : ByteArray := prog_6_method_1_code
def yX4_init : MethodName := ⟨RX4, "<init>", "()V"⟩
abbrev cX4_muster : ByteArray := prog_6_method_2_code
def yX4_muster : MethodName := ⟨RX4, "muster", "(LGladehall$UnitRow;)V"⟩
abbrev cX4_living : ByteArray := prog_6_method_3_code
def yX4_living : MethodName := ⟨RX4, "living", "()I"⟩
abbrev cX4_firstLiving : ByteArray := prog_6_method_4_code
def yX4_firstLiving : MethodName := ⟨RX4, "firstLiving", "()I"⟩
abbrev cX4_takeBlow : ByteArray := prog_6_method_5_code
def yX4_takeBlow : MethodName := ⟨RX4, "takeBlow", "(II)V"⟩
abbrev cX4_takeTurn : ByteArray := prog_6_method_6_code
def yX4_takeTurn : MethodName := ⟨RX4, "takeTurn", "()I"⟩
def RX5 : String := "Gladehall$UnitRow"
def TX5 : u_T := fun k => match k with
  | 0 => ("Gladehall$UnitRow", "kinds", "[I", true)
  | 1 => ("Gladehall$UnitRow", "stars", "[I", true)
  | _ => ("Gladehall$UnitRow", "size", "I", false)
def tyX5 : Nat → FieldType := fun k => match k with
  | 0 => .array .int
  | 1 => .array .int
  | _ => .int
abbrev wsX50 : List Cond := u_ws RX5 TX5 3
theorem nmX5 : ∀ a, a < 3 → ∀ b, b < 3 → a ≠ b → (TX5 a).2.1 ≠ (TX5 b).2.1 := by decide +kernel
theorem tyX5_ok : ∀ k, k < 3 → parseFieldDescriptor (TX5 k).2.2.1 = some (tyX5 k) := by decide +kernel
abbrev cX5_init : ByteArray := prog_7_method_1_code
def yX5_init : MethodName := ⟨RX5, "<init>", "(I)V"⟩
abbrev cX5_has : ByteArray := prog_7_method_2_code
def yX5_has : MethodName := ⟨RX5, "has", "(I)Z"⟩
abbrev cX5_append : ByteArray := prog_7_method_3_code
def yX5_append : MethodName := ⟨RX5, "append", "(II)Z"⟩
abbrev cX5_removeAt : ByteArray := prog_7_method_4_code
def yX5_removeAt : MethodName := ⟨RX5, "removeAt", "(I)V"⟩
abbrev cX5_find : ByteArray := prog_7_method_5_code
def yX5_find : MethodName := ⟨RX5, "find", "(II)I"⟩
abbrev cX5_countOf : ByteArray := prog_7_method_6_code
def yX5_countOf : MethodName := ⟨RX5, "countOf", "(II)I"⟩
abbrev cX5_hasKind : ByteArray := prog_7_method_7_code
def yX5_hasKind : MethodName := ⟨RX5, "hasKind", "(I)Z"⟩
abbrev cX5_unitsHeld : ByteArray := prog_7_method_8_code
def yX5_unitsHeld : MethodName := ⟨RX5, "unitsHeld", "(I)I"⟩
abbrev cX5_unitAt : ByteArray := prog_7_method_9_code
def yX5_unitAt : MethodName := ⟨RX5, "unitAt", "(I)I"⟩
abbrev cX5_healthAt : ByteArray := prog_7_method_10_code
def yX5_healthAt : MethodName := ⟨RX5, "healthAt", "(I)I"⟩
abbrev cX5_strengthAt : ByteArray := prog_7_method_11_code
def yX5_strengthAt : MethodName := ⟨RX5, "strengthAt", "(I)I"⟩
def RX6 : String := "Gladehall"
def TX6 : u_T := fun k => match k with
  | 0 => ("Gladehall", "players", "[LGladehall$Player;", true)
  | 1 => ("Gladehall", "stock", "LGladehall$Pool;", true)
  | 2 => ("Gladehall", "numbers", "LGladehall$Numbers;", true)
  | 3 => ("Gladehall", "battle", "LGladehall$Battle;", true)
  | _ => ("Gladehall", "roundsPlayed", "I", false)
def tyX6 : Nat → FieldType := fun k => match k with
  | 0 => .array (.object "Gladehall$Player")
  | 1 => .object "Gladehall$Pool"
  | 2 => .object "Gladehall$Numbers"
  | 3 => .object "Gladehall$Battle"
  | _ => .int
abbrev wsX60 : List Cond := u_ws RX6 TX6 5
theorem nmX6 : ∀ a, a < 5 → ∀ b, b < 5 → a ≠ b → (TX6 a).2.1 ≠ (TX6 b).2.1 := by decide +kernel
theorem tyX6_ok : ∀ k, k < 5 → parseFieldDescriptor (TX6 k).2.2.1 = some (tyX6 k) := by decide +kernel
abbrev cX6_init : ByteArray := prog_1_method_1_code
def yX6_init : MethodName := ⟨RX6, "<init>", "()V"⟩
abbrev cX6_tell : ByteArray := prog_1_method_2_code
def yX6_tell : MethodName := ⟨RX6, "tell", "(I)I"⟩
abbrev cX6_roll : ByteArray := prog_1_method_3_code
def yX6_roll : MethodName := ⟨RX6, "roll", "(I)I"⟩
abbrev cX6_toggleLock : ByteArray := prog_1_method_4_code
def yX6_toggleLock : MethodName := ⟨RX6, "toggleLock", "(I)Z"⟩
abbrev cX6_buyLevel : ByteArray := prog_1_method_5_code
def yX6_buyLevel : MethodName := ⟨RX6, "buyLevel", "(I)I"⟩
abbrev cX6_buy : ByteArray := prog_1_method_6_code
def yX6_buy : MethodName := ⟨RX6, "buy", "(II)I"⟩
abbrev cX6_sell : ByteArray := prog_1_method_7_code
def yX6_sell : MethodName := ⟨RX6, "sell", "(II)I"⟩
abbrev cX6_toBoard : ByteArray := prog_1_method_8_code
def yX6_toBoard : MethodName := ⟨RX6, "toBoard", "(II)I"⟩
abbrev cX6_toBench : ByteArray := prog_1_method_9_code
def yX6_toBench : MethodName := ⟨RX6, "toBench", "(II)I"⟩
abbrev cX6_round : ByteArray := prog_1_method_10_code
def yX6_round : MethodName := ⟨RX6, "round", "()I"⟩
abbrev cX6_rounds : ByteArray := prog_1_method_11_code
def yX6_rounds : MethodName := ⟨RX6, "rounds", "()I"⟩
abbrev cX6_fight : ByteArray := prog_1_method_12_code
def yX6_fight : MethodName := ⟨RX6, "fight", "(II)I"⟩
abbrev cX6_fightByRecord : ByteArray := prog_1_method_13_code
def yX6_fightByRecord : MethodName := ⟨RX6, "fightByRecord", "(II)I"⟩
abbrev cX6_gold : ByteArray := prog_1_method_14_code
def yX6_gold : MethodName := ⟨RX6, "gold", "(I)I"⟩
abbrev cX6_health : ByteArray := prog_1_method_15_code
def yX6_health : MethodName := ⟨RX6, "health", "(I)I"⟩
abbrev cX6_streak : ByteArray := prog_1_method_16_code
def yX6_streak : MethodName := ⟨RX6, "streak", "(I)I"⟩
abbrev cX6_shopAt : ByteArray := prog_1_method_17_code
def yX6_shopAt : MethodName := ⟨RX6, "shopAt", "(II)I"⟩
abbrev cX6_benchAt : ByteArray := prog_1_method_18_code
def yX6_benchAt : MethodName := ⟨RX6, "benchAt", "(II)I"⟩
abbrev cX6_boardAt : ByteArray := prog_1_method_19_code
def yX6_boardAt : MethodName := ⟨RX6, "boardAt", "(II)I"⟩
abbrev cX6_blow : ByteArray := prog_1_method_20_code
def yX6_blow : MethodName := ⟨RX6, "blow", "(II)I"⟩
abbrev cX6_pool : ByteArray := prog_1_method_21_code
def yX6_pool : MethodName := ⟨RX6, "pool", "(I)I"⟩
abbrev cX6_out : ByteArray := prog_1_method_22_code
def yX6_out : MethodName := ⟨RX6, "out", "(I)I"⟩
abbrev cX6_playerOf : ByteArray := prog_1_method_23_code
def yX6_playerOf : MethodName := ⟨RX6, "playerOf", "(I)LGladehall$Player;"⟩
abbrev cX6_requireKind : ByteArray := prog_1_method_24_code
def yX6_requireKind : MethodName := ⟨RX6, "requireKind", "(I)V"⟩
abbrev cX6_requireSlot : ByteArray := prog_1_method_25_code
def yX6_requireSlot : MethodName := ⟨RX6, "requireSlot", "(I)V"⟩
abbrev cX6_requireUnit : ByteArray := prog_1_method_26_code
def yX6_requireUnit : MethodName := ⟨RX6, "requireUnit", "(LGladehall$UnitRow;I)V"⟩
abbrev cX6_musterSides : ByteArray := prog_1_method_27_code
def yX6_musterSides : MethodName := ⟨RX6, "musterSides", "(II)V"⟩
abbrev cX6_fightPair : ByteArray := prog_1_method_28_code
def yX6_fightPair : MethodName := ⟨RX6, "fightPair", "(II)V"⟩
abbrev cX6_fillUnlockedShops : ByteArray := prog_1_method_29_code
def yX6_fillUnlockedShops : MethodName := ⟨RX6, "fillUnlockedShops", "()V"⟩
abbrev cX6_fillShop : ByteArray := prog_1_method_30_code
def yX6_fillShop : MethodName := ⟨RX6, "fillShop", "(LGladehall$Player;)V"⟩
abbrev cX6_playersWithHealth : ByteArray := prog_1_method_31_code
def yX6_playersWithHealth : MethodName := ⟨RX6, "playersWithHealth", "()I"⟩
abbrev cX6_costOf : ByteArray := prog_1_method_32_code
def yX6_costOf : MethodName := ⟨RX6, "costOf", "(I)I"⟩
abbrev cX6_unitsFor : ByteArray := prog_1_method_33_code
def yX6_unitsFor : MethodName := ⟨RX6, "unitsFor", "(I)I"⟩
def RX7 : String := "GladehallModel"
def TX7 : u_T := fun k => match k with
  | 0 => ("GladehallModel", "thrown", "I", false)
  | 1 => ("GladehallModel", "rounds", "I", false)
  | 2 => ("GladehallModel", "begin", "I", false)
  | 3 => ("GladehallModel", "told", "I", false)
  | 4 => ("GladehallModel", "numbers", "[I", true)
  | 5 => ("GladehallModel", "pool", "[I", true)
  | 6 => ("GladehallModel", "gold", "[I", true)
  | 7 => ("GladehallModel", "levels", "[I", true)
  | 8 => ("GladehallModel", "health", "[I", true)
  | 9 => ("GladehallModel", "streaks", "[I", true)
  | 10 => ("GladehallModel", "shops", "[I", true)
  | 11 => ("GladehallModel", "areLocked", "[Z", true)
  | 12 => ("GladehallModel", "benched", "[I", true)
  | 13 => ("GladehallModel", "benches", "[I", true)
  | 14 => ("GladehallModel", "boarded", "[I", true)
  | 15 => ("GladehallModel", "boards", "[I", true)
  | 16 => ("GladehallModel", "many", "[I", true)
  | 17 => ("GladehallModel", "turns", "[I", true)
  | _ => ("GladehallModel", "left", "[I", true)
def tyX7 : Nat → FieldType := fun k => match k with
  | 0 => .int
  | 1 => .int
  | 2 => .int
  | 3 => .int
  | 4 => .array .int
  | 5 => .array .int
  | 6 => .array .int
  | 7 => .array .int
  | 8 => .array .int
  | 9 => .array .int
  | 10 => .array .int
  | 11 => .array .boolean
  | 12 => .array .int
  | 13 => .array .int
  | 14 => .array .int
  | 15 => .array .int
  | 16 => .array .int
  | 17 => .array .int
  | _ => .array .int
abbrev wsX70 : List Cond := u_ws RX7 TX7 19
theorem nmX7 : ∀ a, a < 19 → ∀ b, b < 19 → a ≠ b → (TX7 a).2.1 ≠ (TX7 b).2.1 := by decide +kernel
theorem tyX7_ok : ∀ k, k < 19 → parseFieldDescriptor (TX7 k).2.2.1 = some (tyX7 k) := by decide +kernel
abbrev cX7_init : ByteArray := prog_9_method_1_code
def yX7_init : MethodName := ⟨RX7, "<init>", "()V"⟩
abbrev cX7_thrown : ByteArray := prog_9_method_2_code
def yX7_thrown : MethodName := ⟨RX7, "thrown", "()I"⟩
abbrev cX7_holds : ByteArray := prog_9_method_3_code
def yX7_holds : MethodName := ⟨RX7, "holds", "(I)Z"⟩
abbrev cX7_in : ByteArray := prog_9_method_4_code
def yX7_in : MethodName := ⟨RX7, "in", "(III)Z"⟩
abbrev cX7_isPlayer : ByteArray := prog_9_method_5_code
def yX7_isPlayer : MethodName := ⟨RX7, "isPlayer", "(I)Z"⟩
abbrev cX7_isSlot : ByteArray := prog_9_method_6_code
def yX7_isSlot : MethodName := ⟨RX7, "isSlot", "(II)Z"⟩
abbrev cX7_cost : ByteArray := prog_9_method_7_code
def yX7_cost : MethodName := ⟨RX7, "cost", "(I)I"⟩
abbrev cX7_worth : ByteArray := prog_9_method_8_code
def yX7_worth : MethodName := ⟨RX7, "worth", "(I)I"⟩
abbrev cX7_least : ByteArray := prog_9_method_9_code
def yX7_least : MethodName := ⟨RX7, "least", "(II)I"⟩
abbrev cX7_tell : ByteArray := prog_9_method_10_code
def yX7_tell : MethodName := ⟨RX7, "tell", "(I)I"⟩
abbrev cX7_next : ByteArray := prog_9_method_11_code
def yX7_next : MethodName := ⟨RX7, "next", "()I"⟩
abbrev cX7_fillsSlot : ByteArray := prog_9_method_12_code
def yX7_fillsSlot : MethodName := ⟨RX7, "fillsSlot", "(II)V"⟩
abbrev cX7_fills : ByteArray := prog_9_method_13_code
def yX7_fills : MethodName := ⟨RX7, "fills", "(I)V"⟩
abbrev cX7_roll : ByteArray := prog_9_method_14_code
def yX7_roll : MethodName := ⟨RX7, "roll", "(I)I"⟩
abbrev cX7_toggleLock : ByteArray := prog_9_method_15_code
def yX7_toggleLock : MethodName := ⟨RX7, "toggleLock", "(I)Z"⟩
abbrev cX7_buyLevel : ByteArray := prog_9_method_16_code
def yX7_buyLevel : MethodName := ⟨RX7, "buyLevel", "(I)I"⟩
abbrev cX7_alike : ByteArray := prog_9_method_17_code
def yX7_alike : MethodName := ⟨RX7, "alike", "(II)I"⟩
abbrev cX7_takesOffBoard : ByteArray := prog_9_method_18_code
def yX7_takesOffBoard : MethodName := ⟨RX7, "takesOffBoard", "(II)V"⟩
abbrev cX7_takesOffBench : ByteArray := prog_9_method_19_code
def yX7_takesOffBench : MethodName := ⟨RX7, "takesOffBench", "(II)V"⟩
abbrev cX7_placeOf : ByteArray := prog_9_method_20_code
def yX7_placeOf : MethodName := ⟨RX7, "placeOf", "(III)I"⟩
abbrev cX7_takes : ByteArray := prog_9_method_21_code
def yX7_takes : MethodName := ⟨RX7, "takes", "(II)V"⟩
abbrev cX7_merge : ByteArray := prog_9_method_22_code
def yX7_merge : MethodName := ⟨RX7, "merge", "(II)V"⟩
abbrev cX7_merges : ByteArray := prog_9_method_23_code
def yX7_merges : MethodName := ⟨RX7, "merges", "(I)V"⟩
abbrev cX7_errorOfBuy : ByteArray := prog_9_method_24_code
def yX7_errorOfBuy : MethodName := ⟨RX7, "errorOfBuy", "(II)I"⟩
abbrev cX7_buy : ByteArray := prog_9_method_25_code
def yX7_buy : MethodName := ⟨RX7, "buy", "(II)I"⟩
abbrev cX7_isOnBench : ByteArray := prog_9_method_26_code
def yX7_isOnBench : MethodName := ⟨RX7, "isOnBench", "(II)Z"⟩
abbrev cX7_isOnBoard : ByteArray := prog_9_method_27_code
def yX7_isOnBoard : MethodName := ⟨RX7, "isOnBoard", "(II)Z"⟩
abbrev cX7_sell : ByteArray := prog_9_method_28_code
def yX7_sell : MethodName := ⟨RX7, "sell", "(II)I"⟩
abbrev cX7_toBoard : ByteArray := prog_9_method_29_code
def yX7_toBoard : MethodName := ⟨RX7, "toBoard", "(II)I"⟩
abbrev cX7_toBench : ByteArray := prog_9_method_30_code
def yX7_toBench : MethodName := ⟨RX7, "toBench", "(II)I"⟩
abbrev cX7_blowOf : ByteArray := prog_9_method_31_code
def yX7_blowOf : MethodName := ⟨RX7, "blowOf", "(II)I"⟩
abbrev cX7_stands : ByteArray := prog_9_method_32_code
def yX7_stands : MethodName := ⟨RX7, "stands", "(II)V"⟩
abbrev cX7_living : ByteArray := prog_9_method_33_code
def yX7_living : MethodName := ⟨RX7, "living", "(I)I"⟩
abbrev cX7_blows : ByteArray := prog_9_method_34_code
def yX7_blows : MethodName := ⟨RX7, "blows", "(II)V"⟩
abbrev cX7_fought : ByteArray := prog_9_method_35_code
def yX7_fought : MethodName := ⟨RX7, "fought", "(II)I"⟩
abbrev cX7_wins : ByteArray := prog_9_method_36_code
def yX7_wins : MethodName := ⟨RX7, "wins", "(III)V"⟩
abbrev cX7_pairs : ByteArray := prog_9_method_37_code
def yX7_pairs : MethodName := ⟨RX7, "pairs", "(II)V"⟩
abbrev cX7_third : ByteArray := prog_9_method_38_code
def yX7_third : MethodName := ⟨RX7, "third", "(I)I"⟩
abbrev cX7_round : ByteArray := prog_9_method_39_code
def yX7_round : MethodName := ⟨RX7, "round", "()I"⟩
abbrev cX7_rounds : ByteArray := prog_9_method_40_code
def yX7_rounds : MethodName := ⟨RX7, "rounds", "()I"⟩
abbrev cX7_mayFight : ByteArray := prog_9_method_41_code
def yX7_mayFight : MethodName := ⟨RX7, "mayFight", "(II)Z"⟩
abbrev cX7_fight : ByteArray := prog_9_method_42_code
def yX7_fight : MethodName := ⟨RX7, "fight", "(II)I"⟩
abbrev cX7_fightByRecord : ByteArray := prog_9_method_43_code
def yX7_fightByRecord : MethodName := ⟨RX7, "fightByRecord", "(II)I"⟩
abbrev cX7_gold : ByteArray := prog_9_method_44_code
def yX7_gold : MethodName := ⟨RX7, "gold", "(I)I"⟩
abbrev cX7_health : ByteArray := prog_9_method_45_code
def yX7_health : MethodName := ⟨RX7, "health", "(I)I"⟩
abbrev cX7_streak : ByteArray := prog_9_method_46_code
def yX7_streak : MethodName := ⟨RX7, "streak", "(I)I"⟩
abbrev cX7_shopAt : ByteArray := prog_9_method_47_code
def yX7_shopAt : MethodName := ⟨RX7, "shopAt", "(II)I"⟩
abbrev cX7_benchAt : ByteArray := prog_9_method_48_code
def yX7_benchAt : MethodName := ⟨RX7, "benchAt", "(II)I"⟩
abbrev cX7_boardAt : ByteArray := prog_9_method_49_code
def yX7_boardAt : MethodName := ⟨RX7, "boardAt", "(II)I"⟩
abbrev cX7_blow : ByteArray := prog_9_method_50_code
def yX7_blow : MethodName := ⟨RX7, "blow", "(II)I"⟩
abbrev cX7_isKind : ByteArray := prog_9_method_51_code
def yX7_isKind : MethodName := ⟨RX7, "isKind", "(I)Z"⟩
abbrev cX7_pool : ByteArray := prog_9_method_52_code
def yX7_pool : MethodName := ⟨RX7, "pool", "(I)I"⟩
abbrev cX7_out : ByteArray := prog_9_method_53_code
def yX7_out : MethodName := ⟨RX7, "out", "(I)I"⟩
def RJx145de : String := "java/io/Serializable"
def TJx145de : u_T := fun k => match k with
  | _ => ("", "", "", false)
def tyJx145de : Nat → FieldType := fun k => match k with
  | _ => .int
theorem nmJx145de : ∀ a, a < 0 → ∀ b, b < 0 → a ≠ b → (TJx145de a).2.1 ≠ (TJx145de b).2.1 := by decide +kernel
theorem tyJx145de_ok : ∀ k, k < 0 → parseFieldDescriptor (TJx145de k).2.2.1 = some (tyJx145de k) := by decide +kernel
def RJ9 : String := "java/lang/Math"
def TJ9 : u_T := fun k => match k with
  | _ => ("", "", "", false)
def tyJ9 : Nat → FieldType := fun k => match k with
  | _ => .int
theorem nmJ9 : ∀ a, a < 0 → ∀ b, b < 0 → a ≠ b → (TJ9 a).2.1 ≠ (TJ9 b).2.1 := by decide +kernel
theorem tyJ9_ok : ∀ k, k < 0 → parseFieldDescriptor (TJ9 k).2.2.1 = some (tyJ9 k) := by decide +kernel
abbrev cJ9_min_7cf53 : ByteArray := prog_15_method_69_code
def yJ9_min_7cf53 : MethodName := ⟨RJ9, "min", "(II)I"⟩
def RJ0 : String := "java/lang/String"
def TJ0 : u_T := fun k => match k with
  | _ => ("", "", "", false)
def tyJ0 : Nat → FieldType := fun k => match k with
  | _ => .int
theorem nmJ0 : ∀ a, a < 0 → ∀ b, b < 0 → a ≠ b → (TJ0 a).2.1 ≠ (TJ0 b).2.1 := by decide +kernel
theorem tyJ0_ok : ∀ k, k < 0 → parseFieldDescriptor (TJ0 k).2.2.1 = some (tyJ0 k) := by decide +kernel
def RL : String := "GladehallLaw"
abbrev cL_tell : ByteArray := method_3_code
def yL_tell : MethodName := ⟨RL, "tell", "(LGladehall;I[J)I"⟩
abbrev cL_roll : ByteArray := method_4_code
def yL_roll : MethodName := ⟨RL, "roll", "(LGladehall;I[J)I"⟩
abbrev cL_toggleLock : ByteArray := method_5_code
def yL_toggleLock : MethodName := ⟨RL, "toggleLock", "(LGladehall;I[J)I"⟩
abbrev cL_buyLevel : ByteArray := method_6_code
def yL_buyLevel : MethodName := ⟨RL, "buyLevel", "(LGladehall;I[J)I"⟩
abbrev cL_buy : ByteArray := method_7_code
def yL_buy : MethodName := ⟨RL, "buy", "(LGladehall;II[J)I"⟩
abbrev cL_sell : ByteArray := method_8_code
def yL_sell : MethodName := ⟨RL, "sell", "(LGladehall;II[J)I"⟩
abbrev cL_toBoard : ByteArray := method_9_code
def yL_toBoard : MethodName := ⟨RL, "toBoard", "(LGladehall;II[J)I"⟩
abbrev cL_toBench : ByteArray := method_10_code
def yL_toBench : MethodName := ⟨RL, "toBench", "(LGladehall;II[J)I"⟩
abbrev cL_round : ByteArray := method_11_code
def yL_round : MethodName := ⟨RL, "round", "(LGladehall;[J)I"⟩
abbrev cL_fight : ByteArray := method_12_code
def yL_fight : MethodName := ⟨RL, "fight", "(LGladehall;II[J)I"⟩
abbrev cL_fightByRecord : ByteArray := method_13_code
def yL_fightByRecord : MethodName := ⟨RL, "fightByRecord", "(LGladehall;II[J)I"⟩
abbrev cL_gold : ByteArray := method_14_code
def yL_gold : MethodName := ⟨RL, "gold", "(LGladehall;I[J)I"⟩
abbrev cL_health : ByteArray := method_15_code
def yL_health : MethodName := ⟨RL, "health", "(LGladehall;I[J)I"⟩
abbrev cL_streak : ByteArray := method_16_code
def yL_streak : MethodName := ⟨RL, "streak", "(LGladehall;I[J)I"⟩
abbrev cL_shopAt : ByteArray := method_17_code
def yL_shopAt : MethodName := ⟨RL, "shopAt", "(LGladehall;II[J)I"⟩
abbrev cL_benchAt : ByteArray := method_18_code
def yL_benchAt : MethodName := ⟨RL, "benchAt", "(LGladehall;II[J)I"⟩
abbrev cL_boardAt : ByteArray := method_19_code
def yL_boardAt : MethodName := ⟨RL, "boardAt", "(LGladehall;II[J)I"⟩
abbrev cL_blow : ByteArray := method_20_code
def yL_blow : MethodName := ⟨RL, "blow", "(LGladehall;II[J)I"⟩
abbrev cL_pool : ByteArray := method_21_code
def yL_pool : MethodName := ⟨RL, "pool", "(LGladehall;I[J)I"⟩
abbrev cL_out : ByteArray := method_22_code
def yL_out : MethodName := ⟨RL, "out", "(LGladehall;I[J)I"⟩
abbrev cL_law : ByteArray := code
def yL_law : MethodName := ⟨RL, "law", "([I)Z"⟩
theorem dX0_init_0 : decode cX0_init 0 = .ok (.aload_n 0, 1) := by decide +kernel
theorem dX0_init_1 : decode cX0_init 1 = .ok (.invokespecial 3, 3) := by decide +kernel
theorem dX0_init_4 : decode cX0_init 4 = .ok (.aload_n 0, 1) := by decide +kernel
theorem dX0_init_5 : decode cX0_init 5 = .ok (.new 9, 3) := by decide +kernel
theorem dX0_init_8 : decode cX0_init 8 = .ok (.dup, 1) := by decide +kernel
theorem dX0_init_9 : decode cX0_init 9 = .ok (.invokespecial 11, 3) := by decide +kernel
theorem dX0_init_12 : decode cX0_init 12 = .ok (.putfield 12, 3) := by decide +kernel
theorem dX0_init_15 : decode cX0_init 15 = .ok (.aload_n 0, 1) := by decide +kernel
theorem dX0_init_16 : decode cX0_init 16 = .ok (.new 9, 3) := by decide +kernel
theorem dX0_init_19 : decode cX0_init 19 = .ok (.dup, 1) := by decide +kernel
theorem dX0_init_20 : decode cX0_init 20 = .ok (.invokespecial 11, 3) := by decide +kernel
theorem dX0_init_23 : decode cX0_init 23 = .ok (.putfield 18, 3) := by decide +kernel
theorem dX0_init_26 : decode cX0_init 26 = .ok (.aload_n 0, 1) := by decide +kernel
theorem dX0_init_27 : decode cX0_init 27 = .ok (.bipush 60, 2) := by decide +kernel
theorem dX0_init_29 : decode cX0_init 29 = .ok (.newarray .int, 2) := by decide +kernel
theorem dX0_init_31 : decode cX0_init 31 = .ok (.putfield 21, 3) := by decide +kernel
theorem dX0_init_34 : decode cX0_init 34 = .ok (.aload_n 0, 1) := by decide +kernel
theorem dX0_init_35 : decode cX0_init 35 = .ok (.bipush 60, 2) := by decide +kernel
theorem dX0_init_37 : decode cX0_init 37 = .ok (.newarray .int, 2) := by decide +kernel
theorem dX0_init_39 : decode cX0_init 39 = .ok (.putfield 25, 3) := by decide +kernel
theorem dX0_init_42 : decode cX0_init 42 = .ok (.return_, 1) := by decide +kernel
theorem dX0_muster_0 : decode cX0_muster 0 = .ok (.aload_n 0, 1) := by decide +kernel
theorem dX0_muster_1 : decode cX0_muster 1 = .ok (.getfield 12, 3) := by decide +kernel
theorem dX0_muster_4 : decode cX0_muster 4 = .ok (.aload_n 1, 1) := by decide +kernel
theorem dX0_muster_5 : decode cX0_muster 5 = .ok (.invokevirtual 28, 3) := by decide +kernel
theorem dX0_muster_8 : decode cX0_muster 8 = .ok (.aload_n 0, 1) := by decide +kernel
theorem dX0_muster_9 : decode cX0_muster 9 = .ok (.getfield 18, 3) := by decide +kernel
theorem dX0_muster_12 : decode cX0_muster 12 = .ok (.aload_n 2, 1) := by decide +kernel
theorem dX0_muster_13 : decode cX0_muster 13 = .ok (.invokevirtual 28, 3) := by decide +kernel
theorem dX0_muster_16 : decode cX0_muster 16 = .ok (.return_, 1) := by decide +kernel
theorem dX0_fightOut_0 : decode cX0_fightOut 0 = .ok (.aload_n 0, 1) := by decide +kernel
theorem dX0_fightOut_1 : decode cX0_fightOut 1 = .ok (.iconst 0, 1) := by decide +kernel
theorem dX0_fightOut_2 : decode cX0_fightOut 2 = .ok (.putfield 32, 3) := by decide +kernel
theorem dX0_fightOut_5 : decode cX0_fightOut 5 = .ok (.iconst 0, 1) := by decide +kernel
theorem dX0_fightOut_6 : decode cX0_fightOut 6 = .ok (.istore_n 1, 1) := by decide +kernel
theorem dX0_fightOut_7 : decode cX0_fightOut 7 = .ok (.iload_n 1, 1) := by decide +kernel
theorem dX0_fightOut_8 : decode cX0_fightOut 8 = .ok (.bipush 60, 2) := by decide +kernel
theorem dX0_fightOut_10 : decode cX0_fightOut 10 = .ok (.if_icmp .ge 114, 3) := by decide +kernel
theorem dX0_fightOut_13 : decode cX0_fightOut 13 = .ok (.iload_n 1, 1) := by decide +kernel
theorem dX0_fightOut_14 : decode cX0_fightOut 14 = .ok (.iconst 2, 1) := by decide +kernel
theorem dX0_fightOut_15 : decode cX0_fightOut 15 = .ok (.irem, 1) := by decide +kernel
theorem dX0_fightOut_16 : decode cX0_fightOut 16 = .ok (.ifCond .ne 10, 3) := by decide +kernel
theorem dX0_fightOut_19 : decode cX0_fightOut 19 = .ok (.aload_n 0, 1) := by decide +kernel
theorem dX0_fightOut_20 : decode cX0_fightOut 20 = .ok (.getfield 12, 3) := by decide +kernel
theorem dX0_fightOut_23 : decode cX0_fightOut 23 = .ok (.goto 7, 3) := by decide +kernel
theorem dX0_fightOut_26 : decode cX0_fightOut 26 = .ok (.aload_n 0, 1) := by decide +kernel
theorem dX0_fightOut_27 : decode cX0_fightOut 27 = .ok (.getfield 18, 3) := by decide +kernel
theorem dX0_fightOut_30 : decode cX0_fightOut 30 = .ok (.astore_n 2, 1) := by decide +kernel
theorem dX0_fightOut_31 : decode cX0_fightOut 31 = .ok (.iload_n 1, 1) := by decide +kernel
theorem dX0_fightOut_32 : decode cX0_fightOut 32 = .ok (.iconst 2, 1) := by decide +kernel
theorem dX0_fightOut_33 : decode cX0_fightOut 33 = .ok (.irem, 1) := by decide +kernel
theorem dX0_fightOut_34 : decode cX0_fightOut 34 = .ok (.ifCond .ne 10, 3) := by decide +kernel
theorem dX0_fightOut_37 : decode cX0_fightOut 37 = .ok (.aload_n 0, 1) := by decide +kernel
theorem dX0_fightOut_38 : decode cX0_fightOut 38 = .ok (.getfield 18, 3) := by decide +kernel
theorem dX0_fightOut_41 : decode cX0_fightOut 41 = .ok (.goto 7, 3) := by decide +kernel
theorem dX0_fightOut_44 : decode cX0_fightOut 44 = .ok (.aload_n 0, 1) := by decide +kernel
theorem dX0_fightOut_45 : decode cX0_fightOut 45 = .ok (.getfield 12, 3) := by decide +kernel
theorem dX0_fightOut_48 : decode cX0_fightOut 48 = .ok (.astore_n 3, 1) := by decide +kernel
theorem dX0_fightOut_49 : decode cX0_fightOut 49 = .ok (.aload_n 2, 1) := by decide +kernel
theorem dX0_fightOut_50 : decode cX0_fightOut 50 = .ok (.invokevirtual 36, 3) := by decide +kernel
theorem dX0_fightOut_53 : decode cX0_fightOut 53 = .ok (.istore 4, 2) := by decide +kernel
theorem dX0_fightOut_55 : decode cX0_fightOut 55 = .ok (.aload_n 3, 1) := by decide +kernel
theorem dX0_fightOut_56 : decode cX0_fightOut 56 = .ok (.invokevirtual 40, 3) := by decide +kernel
theorem dX0_fightOut_59 : decode cX0_fightOut 59 = .ok (.istore 5, 2) := by decide +kernel
theorem dX0_fightOut_61 : decode cX0_fightOut 61 = .ok (.iload 4, 2) := by decide +kernel
theorem dX0_fightOut_63 : decode cX0_fightOut 63 = .ok (.iconst (-1), 1) := by decide +kernel
theorem dX0_fightOut_64 : decode cX0_fightOut 64 = .ok (.if_icmp .eq 9, 3) := by decide +kernel
theorem dX0_fightOut_67 : decode cX0_fightOut 67 = .ok (.iload 5, 2) := by decide +kernel
theorem dX0_fightOut_69 : decode cX0_fightOut 69 = .ok (.iconst (-1), 1) := by decide +kernel
theorem dX0_fightOut_70 : decode cX0_fightOut 70 = .ok (.if_icmp .ne 4, 3) := by decide +kernel
theorem dX0_fightOut_73 : decode cX0_fightOut 73 = .ok (.return_, 1) := by decide +kernel
theorem dX0_fightOut_74 : decode cX0_fightOut 74 = .ok (.aload_n 3, 1) := by decide +kernel
theorem dX0_fightOut_75 : decode cX0_fightOut 75 = .ok (.iload 5, 2) := by decide +kernel
theorem dX0_fightOut_77 : decode cX0_fightOut 77 = .ok (.aload_n 2, 1) := by decide +kernel
theorem dX0_fightOut_78 : decode cX0_fightOut 78 = .ok (.getfield 43, 3) := by decide +kernel
theorem dX0_fightOut_81 : decode cX0_fightOut 81 = .ok (.iload 4, 2) := by decide +kernel
theorem dX0_fightOut_83 : decode cX0_fightOut 83 = .ok (.iaload, 1) := by decide +kernel
theorem dX0_fightOut_84 : decode cX0_fightOut 84 = .ok (.invokevirtual 46, 3) := by decide +kernel
theorem dX0_fightOut_87 : decode cX0_fightOut 87 = .ok (.aload_n 0, 1) := by decide +kernel
theorem dX0_fightOut_88 : decode cX0_fightOut 88 = .ok (.getfield 21, 3) := by decide +kernel
theorem dX0_fightOut_91 : decode cX0_fightOut 91 = .ok (.iload_n 1, 1) := by decide +kernel
theorem dX0_fightOut_92 : decode cX0_fightOut 92 = .ok (.iload 5, 2) := by decide +kernel
theorem dX0_fightOut_94 : decode cX0_fightOut 94 = .ok (.iastore, 1) := by decide +kernel
theorem dX0_fightOut_95 : decode cX0_fightOut 95 = .ok (.aload_n 0, 1) := by decide +kernel
theorem dX0_fightOut_96 : decode cX0_fightOut 96 = .ok (.getfield 25, 3) := by decide +kernel
theorem dX0_fightOut_99 : decode cX0_fightOut 99 = .ok (.iload_n 1, 1) := by decide +kernel
theorem dX0_fightOut_100 : decode cX0_fightOut 100 = .ok (.aload_n 2, 1) := by decide +kernel
theorem dX0_fightOut_101 : decode cX0_fightOut 101 = .ok (.getfield 43, 3) := by decide +kernel
theorem dX0_fightOut_104 : decode cX0_fightOut 104 = .ok (.iload 4, 2) := by decide +kernel
theorem dX0_fightOut_106 : decode cX0_fightOut 106 = .ok (.iaload, 1) := by decide +kernel
theorem dX0_fightOut_107 : decode cX0_fightOut 107 = .ok (.iastore, 1) := by decide +kernel
theorem dX0_fightOut_108 : decode cX0_fightOut 108 = .ok (.aload_n 0, 1) := by decide +kernel
theorem dX0_fightOut_109 : decode cX0_fightOut 109 = .ok (.dup, 1) := by decide +kernel
theorem dX0_fightOut_110 : decode cX0_fightOut 110 = .ok (.getfield 32, 3) := by decide +kernel
theorem dX0_fightOut_113 : decode cX0_fightOut 113 = .ok (.iconst 1, 1) := by decide +kernel
theorem dX0_fightOut_114 : decode cX0_fightOut 114 = .ok (.iadd, 1) := by decide +kernel
theorem dX0_fightOut_115 : decode cX0_fightOut 115 = .ok (.putfield 32, 3) := by decide +kernel
theorem dX0_fightOut_118 : decode cX0_fightOut 118 = .ok (.iinc 1 1, 3) := by decide +kernel
theorem dX0_fightOut_121 : decode cX0_fightOut 121 = .ok (.goto (-114), 3) := by decide +kernel
theorem dX0_fightOut_124 : decode cX0_fightOut 124 = .ok (.return_, 1) := by decide +kernel
theorem dX0_redo_0 : decode cX0_redo 0 = .ok (.iconst 0, 1) := by decide +kernel
theorem dX0_redo_1 : decode cX0_redo 1 = .ok (.istore_n 1, 1) := by decide +kernel
theorem dX0_redo_2 : decode cX0_redo 2 = .ok (.iload_n 1, 1) := by decide +kernel
theorem dX0_redo_3 : decode cX0_redo 3 = .ok (.aload_n 0, 1) := by decide +kernel
theorem dX0_redo_4 : decode cX0_redo 4 = .ok (.getfield 32, 3) := by decide +kernel
theorem dX0_redo_7 : decode cX0_redo 7 = .ok (.if_icmp .ge 43, 3) := by decide +kernel
theorem dX0_redo_10 : decode cX0_redo 10 = .ok (.iload_n 1, 1) := by decide +kernel
theorem dX0_redo_11 : decode cX0_redo 11 = .ok (.iconst 2, 1) := by decide +kernel
theorem dX0_redo_12 : decode cX0_redo 12 = .ok (.irem, 1) := by decide +kernel
theorem dX0_redo_13 : decode cX0_redo 13 = .ok (.ifCond .ne 10, 3) := by decide +kernel
theorem dX0_redo_16 : decode cX0_redo 16 = .ok (.aload_n 0, 1) := by decide +kernel
theorem dX0_redo_17 : decode cX0_redo 17 = .ok (.getfield 18, 3) := by decide +kernel
theorem dX0_redo_20 : decode cX0_redo 20 = .ok (.goto 7, 3) := by decide +kernel
theorem dX0_redo_23 : decode cX0_redo 23 = .ok (.aload_n 0, 1) := by decide +kernel
theorem dX0_redo_24 : decode cX0_redo 24 = .ok (.getfield 12, 3) := by decide +kernel
theorem dX0_redo_27 : decode cX0_redo 27 = .ok (.astore_n 2, 1) := by decide +kernel
theorem dX0_redo_28 : decode cX0_redo 28 = .ok (.aload_n 2, 1) := by decide +kernel
theorem dX0_redo_29 : decode cX0_redo 29 = .ok (.aload_n 0, 1) := by decide +kernel
theorem dX0_redo_30 : decode cX0_redo 30 = .ok (.getfield 21, 3) := by decide +kernel
theorem dX0_redo_33 : decode cX0_redo 33 = .ok (.iload_n 1, 1) := by decide +kernel
theorem dX0_redo_34 : decode cX0_redo 34 = .ok (.iaload, 1) := by decide +kernel
theorem dX0_redo_35 : decode cX0_redo 35 = .ok (.aload_n 0, 1) := by decide +kernel
theorem dX0_redo_36 : decode cX0_redo 36 = .ok (.getfield 25, 3) := by decide +kernel
theorem dX0_redo_39 : decode cX0_redo 39 = .ok (.iload_n 1, 1) := by decide +kernel
theorem dX0_redo_40 : decode cX0_redo 40 = .ok (.iaload, 1) := by decide +kernel
theorem dX0_redo_41 : decode cX0_redo 41 = .ok (.invokevirtual 46, 3) := by decide +kernel
theorem dX0_redo_44 : decode cX0_redo 44 = .ok (.iinc 1 1, 3) := by decide +kernel
theorem dX0_redo_47 : decode cX0_redo 47 = .ok (.goto (-45), 3) := by decide +kernel
theorem dX0_redo_50 : decode cX0_redo 50 = .ok (.return_, 1) := by decide +kernel
theorem dX0_result_0 : decode cX0_result 0 = .ok (.aload_n 0, 1) := by decide +kernel
theorem dX0_result_1 : decode cX0_result 1 = .ok (.getfield 12, 3) := by decide +kernel
theorem dX0_result_4 : decode cX0_result 4 = .ok (.invokevirtual 50, 3) := by decide +kernel
theorem dX0_result_7 : decode cX0_result 7 = .ok (.aload_n 0, 1) := by decide +kernel
theorem dX0_result_8 : decode cX0_result 8 = .ok (.getfield 18, 3) := by decide +kernel
theorem dX0_result_11 : decode cX0_result 11 = .ok (.invokevirtual 50, 3) := by decide +kernel
theorem dX0_result_14 : decode cX0_result 14 = .ok (.isub, 1) := by decide +kernel
theorem dX0_result_15 : decode cX0_result 15 = .ok (.ireturn, 1) := by decide +kernel
theorem dX1_init_0 : decode cX1_init 0 = .ok (.aload_n 0, 1) := by decide +kernel
theorem dX1_init_1 : decode cX1_init 1 = .ok (.invokespecial 3, 3) := by decide +kernel
theorem dX1_init_4 : decode cX1_init 4 = .ok (.aload_n 0, 1) := by decide +kernel
theorem dX1_init_5 : decode cX1_init 5 = .ok (.bipush 100, 2) := by decide +kernel
theorem dX1_init_7 : decode cX1_init 7 = .ok (.newarray .int, 2) := by decide +kernel
theorem dX1_init_9 : decode cX1_init 9 = .ok (.putfield 9, 3) := by decide +kernel
theorem dX1_init_12 : decode cX1_init 12 = .ok (.return_, 1) := by decide +kernel
theorem dX1_append_0 : decode cX1_append 0 = .ok (.aload_n 0, 1) := by decide +kernel
theorem dX1_append_1 : decode cX1_append 1 = .ok (.getfield 15, 3) := by decide +kernel
theorem dX1_append_4 : decode cX1_append 4 = .ok (.bipush 100, 2) := by decide +kernel
theorem dX1_append_6 : decode cX1_append 6 = .ok (.if_icmp .lt 5, 3) := by decide +kernel
theorem dX1_append_9 : decode cX1_append 9 = .ok (.iconst 0, 1) := by decide +kernel
theorem dX1_append_10 : decode cX1_append 10 = .ok (.ireturn, 1) := by decide +kernel
theorem dX1_append_11 : decode cX1_append 11 = .ok (.aload_n 0, 1) := by decide +kernel
theorem dX1_append_12 : decode cX1_append 12 = .ok (.getfield 9, 3) := by decide +kernel
theorem dX1_append_15 : decode cX1_append 15 = .ok (.aload_n 0, 1) := by decide +kernel
theorem dX1_append_16 : decode cX1_append 16 = .ok (.getfield 19, 3) := by decide +kernel
theorem dX1_append_19 : decode cX1_append 19 = .ok (.aload_n 0, 1) := by decide +kernel
theorem dX1_append_20 : decode cX1_append 20 = .ok (.getfield 15, 3) := by decide +kernel
theorem dX1_append_23 : decode cX1_append 23 = .ok (.iadd, 1) := by decide +kernel
theorem dX1_append_24 : decode cX1_append 24 = .ok (.bipush 100, 2) := by decide +kernel
theorem dX1_append_26 : decode cX1_append 26 = .ok (.irem, 1) := by decide +kernel
theorem dX1_append_27 : decode cX1_append 27 = .ok (.iload_n 1, 1) := by decide +kernel
theorem dX1_append_28 : decode cX1_append 28 = .ok (.iastore, 1) := by decide +kernel
theorem dX1_append_29 : decode cX1_append 29 = .ok (.aload_n 0, 1) := by decide +kernel
theorem dX1_append_30 : decode cX1_append 30 = .ok (.dup, 1) := by decide +kernel
theorem dX1_append_31 : decode cX1_append 31 = .ok (.getfield 15, 3) := by decide +kernel
theorem dX1_append_34 : decode cX1_append 34 = .ok (.iconst 1, 1) := by decide +kernel
theorem dX1_append_35 : decode cX1_append 35 = .ok (.iadd, 1) := by decide +kernel
theorem dX1_append_36 : decode cX1_append 36 = .ok (.putfield 15, 3) := by decide +kernel
theorem dX1_append_39 : decode cX1_append 39 = .ok (.iconst 1, 1) := by decide +kernel
theorem dX1_append_40 : decode cX1_append 40 = .ok (.ireturn, 1) := by decide +kernel
theorem dX1_take_0 : decode cX1_take 0 = .ok (.aload_n 0, 1) := by decide +kernel
theorem dX1_take_1 : decode cX1_take 1 = .ok (.getfield 15, 3) := by decide +kernel
theorem dX1_take_4 : decode cX1_take 4 = .ok (.ifCond .ne 5, 3) := by decide +kernel
theorem dX1_take_7 : decode cX1_take 7 = .ok (.iconst 0, 1) := by decide +kernel
theorem dX1_take_8 : decode cX1_take 8 = .ok (.ireturn, 1) := by decide +kernel
theorem dX1_take_9 : decode cX1_take 9 = .ok (.aload_n 0, 1) := by decide +kernel
theorem dX1_take_10 : decode cX1_take 10 = .ok (.getfield 9, 3) := by decide +kernel
theorem dX1_take_13 : decode cX1_take 13 = .ok (.aload_n 0, 1) := by decide +kernel
theorem dX1_take_14 : decode cX1_take 14 = .ok (.getfield 19, 3) := by decide +kernel
theorem dX1_take_17 : decode cX1_take 17 = .ok (.iaload, 1) := by decide +kernel
theorem dX1_take_18 : decode cX1_take 18 = .ok (.istore_n 1, 1) := by decide +kernel
theorem dX1_take_19 : decode cX1_take 19 = .ok (.aload_n 0, 1) := by decide +kernel
theorem dX1_take_20 : decode cX1_take 20 = .ok (.aload_n 0, 1) := by decide +kernel
theorem dX1_take_21 : decode cX1_take 21 = .ok (.getfield 19, 3) := by decide +kernel
theorem dX1_take_24 : decode cX1_take 24 = .ok (.iconst 1, 1) := by decide +kernel
theorem dX1_take_25 : decode cX1_take 25 = .ok (.iadd, 1) := by decide +kernel
theorem dX1_take_26 : decode cX1_take 26 = .ok (.bipush 100, 2) := by decide +kernel
theorem dX1_take_28 : decode cX1_take 28 = .ok (.irem, 1) := by decide +kernel
theorem dX1_take_29 : decode cX1_take 29 = .ok (.putfield 19, 3) := by decide +kernel
theorem dX1_take_32 : decode cX1_take 32 = .ok (.aload_n 0, 1) := by decide +kernel
theorem dX1_take_33 : decode cX1_take 33 = .ok (.dup, 1) := by decide +kernel
theorem dX1_take_34 : decode cX1_take 34 = .ok (.getfield 15, 3) := by decide +kernel
theorem dX1_take_37 : decode cX1_take 37 = .ok (.iconst 1, 1) := by decide +kernel
theorem dX1_take_38 : decode cX1_take 38 = .ok (.isub, 1) := by decide +kernel
theorem dX1_take_39 : decode cX1_take 39 = .ok (.putfield 15, 3) := by decide +kernel
theorem dX1_take_42 : decode cX1_take 42 = .ok (.iload_n 1, 1) := by decide +kernel
theorem dX1_take_43 : decode cX1_take 43 = .ok (.ireturn, 1) := by decide +kernel
theorem dX2_init_0 : decode cX2_init 0 = .ok (.aload_n 0, 1) := by decide +kernel
theorem dX2_init_1 : decode cX2_init 1 = .ok (.invokespecial 3, 3) := by decide +kernel
theorem dX2_init_4 : decode cX2_init 4 = .ok (.aload_n 0, 1) := by decide +kernel
theorem dX2_init_5 : decode cX2_init 5 = .ok (.bipush 10, 2) := by decide +kernel
theorem dX2_init_7 : decode cX2_init 7 = .ok (.putfield 9, 3) := by decide +kernel
theorem dX2_init_10 : decode cX2_init 10 = .ok (.aload_n 0, 1) := by decide +kernel
theorem dX2_init_11 : decode cX2_init 11 = .ok (.iconst 1, 1) := by decide +kernel
theorem dX2_init_12 : decode cX2_init 12 = .ok (.putfield 15, 3) := by decide +kernel
theorem dX2_init_15 : decode cX2_init 15 = .ok (.aload_n 0, 1) := by decide +kernel
theorem dX2_init_16 : decode cX2_init 16 = .ok (.bipush 20, 2) := by decide +kernel
theorem dX2_init_18 : decode cX2_init 18 = .ok (.putfield 18, 3) := by decide +kernel
theorem dX2_init_21 : decode cX2_init 21 = .ok (.aload_n 0, 1) := by decide +kernel
theorem dX2_init_22 : decode cX2_init 22 = .ok (.iconst 3, 1) := by decide +kernel
theorem dX2_init_23 : decode cX2_init 23 = .ok (.newarray .int, 2) := by decide +kernel
theorem dX2_init_25 : decode cX2_init 25 = .ok (.putfield 21, 3) := by decide +kernel
theorem dX2_init_28 : decode cX2_init 28 = .ok (.aload_n 0, 1) := by decide +kernel
theorem dX2_init_29 : decode cX2_init 29 = .ok (.new 25, 3) := by decide +kernel
theorem dX2_init_32 : decode cX2_init 32 = .ok (.dup, 1) := by decide +kernel
theorem dX2_init_33 : decode cX2_init 33 = .ok (.bipush 6, 2) := by decide +kernel
theorem dX2_init_35 : decode cX2_init 35 = .ok (.invokespecial 27, 3) := by decide +kernel
theorem dX2_init_38 : decode cX2_init 38 = .ok (.putfield 30, 3) := by decide +kernel
theorem dX2_init_41 : decode cX2_init 41 = .ok (.aload_n 0, 1) := by decide +kernel
theorem dX2_init_42 : decode cX2_init 42 = .ok (.new 25, 3) := by decide +kernel
theorem dX2_init_45 : decode cX2_init 45 = .ok (.dup, 1) := by decide +kernel
theorem dX2_init_46 : decode cX2_init 46 = .ok (.iconst 5, 1) := by decide +kernel
theorem dX2_init_47 : decode cX2_init 47 = .ok (.invokespecial 27, 3) := by decide +kernel
theorem dX2_init_50 : decode cX2_init 50 = .ok (.putfield 34, 3) := by decide +kernel
theorem dX2_init_53 : decode cX2_init 53 = .ok (.iconst 0, 1) := by decide +kernel
theorem dX2_init_54 : decode cX2_init 54 = .ok (.istore_n 1, 1) := by decide +kernel
theorem dX2_init_55 : decode cX2_init 55 = .ok (.iload_n 1, 1) := by decide +kernel
theorem dX2_init_56 : decode cX2_init 56 = .ok (.iconst 3, 1) := by decide +kernel
theorem dX2_init_57 : decode cX2_init 57 = .ok (.if_icmp .ge 16, 3) := by decide +kernel
theorem dX2_init_60 : decode cX2_init 60 = .ok (.aload_n 0, 1) := by decide +kernel
theorem dX2_init_61 : decode cX2_init 61 = .ok (.getfield 21, 3) := by decide +kernel
theorem dX2_init_64 : decode cX2_init 64 = .ok (.iload_n 1, 1) := by decide +kernel
theorem dX2_init_65 : decode cX2_init 65 = .ok (.iconst (-1), 1) := by decide +kernel
theorem dX2_init_66 : decode cX2_init 66 = .ok (.iastore, 1) := by decide +kernel
theorem dX2_init_67 : decode cX2_init 67 = .ok (.iinc 1 1, 3) := by decide +kernel
theorem dX2_init_70 : decode cX2_init 70 = .ok (.goto (-15), 3) := by decide +kernel
theorem dX2_init_73 : decode cX2_init 73 = .ok (.return_, 1) := by decide +kernel
theorem dX2_addGold_0 : decode cX2_addGold 0 = .ok (.aload_n 0, 1) := by decide +kernel
theorem dX2_addGold_1 : decode cX2_addGold 1 = .ok (.bipush 100, 2) := by decide +kernel
theorem dX2_addGold_3 : decode cX2_addGold 3 = .ok (.aload_n 0, 1) := by decide +kernel
theorem dX2_addGold_4 : decode cX2_addGold 4 = .ok (.getfield 9, 3) := by decide +kernel
theorem dX2_addGold_7 : decode cX2_addGold 7 = .ok (.iload_n 1, 1) := by decide +kernel
theorem dX2_addGold_8 : decode cX2_addGold 8 = .ok (.iadd, 1) := by decide +kernel
theorem dX2_addGold_9 : decode cX2_addGold 9 = .ok (.invokestatic 37, 3) := by decide +kernel
theorem dX2_addGold_12 : decode cX2_addGold 12 = .ok (.putfield 9, 3) := by decide +kernel
theorem dX2_addGold_15 : decode cX2_addGold 15 = .ok (.return_, 1) := by decide +kernel
theorem dX2_earn_0 : decode cX2_earn 0 = .ok (.iconst 3, 1) := by decide +kernel
theorem dX2_earn_1 : decode cX2_earn 1 = .ok (.aload_n 0, 1) := by decide +kernel
theorem dX2_earn_2 : decode cX2_earn 2 = .ok (.getfield 9, 3) := by decide +kernel
theorem dX2_earn_5 : decode cX2_earn 5 = .ok (.bipush 10, 2) := by decide +kernel
theorem dX2_earn_7 : decode cX2_earn 7 = .ok (.idiv, 1) := by decide +kernel
theorem dX2_earn_8 : decode cX2_earn 8 = .ok (.invokestatic 37, 3) := by decide +kernel
theorem dX2_earn_11 : decode cX2_earn 11 = .ok (.istore_n 1, 1) := by decide +kernel
theorem dX2_earn_12 : decode cX2_earn 12 = .ok (.aload_n 0, 1) := by decide +kernel
theorem dX2_earn_13 : decode cX2_earn 13 = .ok (.getfield 43, 3) := by decide +kernel
theorem dX2_earn_16 : decode cX2_earn 16 = .ok (.iconst 1, 1) := by decide +kernel
theorem dX2_earn_17 : decode cX2_earn 17 = .ok (.if_icmp .gt 11, 3) := by decide +kernel
theorem dX2_earn_20 : decode cX2_earn 20 = .ok (.aload_n 0, 1) := by decide +kernel
theorem dX2_earn_21 : decode cX2_earn 21 = .ok (.getfield 43, 3) := by decide +kernel
theorem dX2_earn_24 : decode cX2_earn 24 = .ok (.iconst (-1), 1) := by decide +kernel
theorem dX2_earn_25 : decode cX2_earn 25 = .ok (.if_icmp .ge 7, 3) := by decide +kernel
theorem dX2_earn_28 : decode cX2_earn 28 = .ok (.iconst 1, 1) := by decide +kernel
theorem dX2_earn_29 : decode cX2_earn 29 = .ok (.goto 4, 3) := by decide +kernel
theorem dX2_earn_32 : decode cX2_earn 32 = .ok (.iconst 0, 1) := by decide +kernel
theorem dX2_earn_33 : decode cX2_earn 33 = .ok (.istore_n 2, 1) := by decide +kernel
theorem dX2_earn_34 : decode cX2_earn 34 = .ok (.aload_n 0, 1) := by decide +kernel
theorem dX2_earn_35 : decode cX2_earn 35 = .ok (.iconst 3, 1) := by decide +kernel
theorem dX2_earn_36 : decode cX2_earn 36 = .ok (.iload_n 1, 1) := by decide +kernel
theorem dX2_earn_37 : decode cX2_earn 37 = .ok (.iadd, 1) := by decide +kernel
theorem dX2_earn_38 : decode cX2_earn 38 = .ok (.iload_n 2, 1) := by decide +kernel
theorem dX2_earn_39 : decode cX2_earn 39 = .ok (.iadd, 1) := by decide +kernel
theorem dX2_earn_40 : decode cX2_earn 40 = .ok (.invokevirtual 46, 3) := by decide +kernel
theorem dX2_earn_43 : decode cX2_earn 43 = .ok (.return_, 1) := by decide +kernel
theorem dX2_win_0 : decode cX2_win 0 = .ok (.aload_n 0, 1) := by decide +kernel
theorem dX2_win_1 : decode cX2_win 1 = .ok (.aload_n 0, 1) := by decide +kernel
theorem dX2_win_2 : decode cX2_win 2 = .ok (.getfield 43, 3) := by decide +kernel
theorem dX2_win_5 : decode cX2_win 5 = .ok (.ifCond .le 12, 3) := by decide +kernel
theorem dX2_win_8 : decode cX2_win 8 = .ok (.aload_n 0, 1) := by decide +kernel
theorem dX2_win_9 : decode cX2_win 9 = .ok (.getfield 43, 3) := by decide +kernel
theorem dX2_win_12 : decode cX2_win 12 = .ok (.iconst 1, 1) := by decide +kernel
theorem dX2_win_13 : decode cX2_win 13 = .ok (.iadd, 1) := by decide +kernel
theorem dX2_win_14 : decode cX2_win 14 = .ok (.goto 4, 3) := by decide +kernel
theorem dX2_win_17 : decode cX2_win 17 = .ok (.iconst 1, 1) := by decide +kernel
theorem dX2_win_18 : decode cX2_win 18 = .ok (.putfield 43, 3) := by decide +kernel
theorem dX2_win_21 : decode cX2_win 21 = .ok (.return_, 1) := by decide +kernel
theorem dX2_lose_0 : decode cX2_lose 0 = .ok (.aload_n 0, 1) := by decide +kernel
theorem dX2_lose_1 : decode cX2_lose 1 = .ok (.aload_n 0, 1) := by decide +kernel
theorem dX2_lose_2 : decode cX2_lose 2 = .ok (.getfield 43, 3) := by decide +kernel
theorem dX2_lose_5 : decode cX2_lose 5 = .ok (.ifCond .ge 12, 3) := by decide +kernel
theorem dX2_lose_8 : decode cX2_lose 8 = .ok (.aload_n 0, 1) := by decide +kernel
theorem dX2_lose_9 : decode cX2_lose 9 = .ok (.getfield 43, 3) := by decide +kernel
theorem dX2_lose_12 : decode cX2_lose 12 = .ok (.iconst 1, 1) := by decide +kernel
theorem dX2_lose_13 : decode cX2_lose 13 = .ok (.isub, 1) := by decide +kernel
theorem dX2_lose_14 : decode cX2_lose 14 = .ok (.goto 4, 3) := by decide +kernel
theorem dX2_lose_17 : decode cX2_lose 17 = .ok (.iconst (-1), 1) := by decide +kernel
theorem dX2_lose_18 : decode cX2_lose 18 = .ok (.putfield 43, 3) := by decide +kernel
theorem dX2_lose_21 : decode cX2_lose 21 = .ok (.aload_n 0, 1) := by decide +kernel
theorem dX2_lose_22 : decode cX2_lose 22 = .ok (.dup, 1) := by decide +kernel
theorem dX2_lose_23 : decode cX2_lose 23 = .ok (.getfield 18, 3) := by decide +kernel
theorem dX2_lose_26 : decode cX2_lose 26 = .ok (.iload_n 1, 1) := by decide +kernel
theorem dX2_lose_27 : decode cX2_lose 27 = .ok (.aload_n 0, 1) := by decide +kernel
theorem dX2_lose_28 : decode cX2_lose 28 = .ok (.getfield 18, 3) := by decide +kernel
theorem dX2_lose_31 : decode cX2_lose 31 = .ok (.invokestatic 37, 3) := by decide +kernel
theorem dX2_lose_34 : decode cX2_lose 34 = .ok (.isub, 1) := by decide +kernel
theorem dX2_lose_35 : decode cX2_lose 35 = .ok (.putfield 18, 3) := by decide +kernel
theorem dX2_lose_38 : decode cX2_lose 38 = .ok (.return_, 1) := by decide +kernel
theorem dX2_unitsHeld_0 : decode cX2_unitsHeld 0 = .ok (.aload_n 0, 1) := by decide +kernel
theorem dX2_unitsHeld_1 : decode cX2_unitsHeld 1 = .ok (.getfield 30, 3) := by decide +kernel
theorem dX2_unitsHeld_4 : decode cX2_unitsHeld 4 = .ok (.iload_n 1, 1) := by decide +kernel
theorem dX2_unitsHeld_5 : decode cX2_unitsHeld 5 = .ok (.invokevirtual 49, 3) := by decide +kernel
theorem dX2_unitsHeld_8 : decode cX2_unitsHeld 8 = .ok (.aload_n 0, 1) := by decide +kernel
theorem dX2_unitsHeld_9 : decode cX2_unitsHeld 9 = .ok (.getfield 34, 3) := by decide +kernel
theorem dX2_unitsHeld_12 : decode cX2_unitsHeld 12 = .ok (.iload_n 1, 1) := by decide +kernel
theorem dX2_unitsHeld_13 : decode cX2_unitsHeld 13 = .ok (.invokevirtual 49, 3) := by decide +kernel
theorem dX2_unitsHeld_16 : decode cX2_unitsHeld 16 = .ok (.iadd, 1) := by decide +kernel
theorem dX2_unitsHeld_17 : decode cX2_unitsHeld 17 = .ok (.istore_n 2, 1) := by decide +kernel
theorem dX2_unitsHeld_18 : decode cX2_unitsHeld 18 = .ok (.iconst 0, 1) := by decide +kernel
theorem dX2_unitsHeld_19 : decode cX2_unitsHeld 19 = .ok (.istore_n 3, 1) := by decide +kernel
theorem dX2_unitsHeld_20 : decode cX2_unitsHeld 20 = .ok (.iload_n 3, 1) := by decide +kernel
theorem dX2_unitsHeld_21 : decode cX2_unitsHeld 21 = .ok (.iconst 3, 1) := by decide +kernel
theorem dX2_unitsHeld_22 : decode cX2_unitsHeld 22 = .ok (.if_icmp .ge 22, 3) := by decide +kernel
theorem dX2_unitsHeld_25 : decode cX2_unitsHeld 25 = .ok (.aload_n 0, 1) := by decide +kernel
theorem dX2_unitsHeld_26 : decode cX2_unitsHeld 26 = .ok (.getfield 21, 3) := by decide +kernel
theorem dX2_unitsHeld_29 : decode cX2_unitsHeld 29 = .ok (.iload_n 3, 1) := by decide +kernel
theorem dX2_unitsHeld_30 : decode cX2_unitsHeld 30 = .ok (.iaload, 1) := by decide +kernel
theorem dX2_unitsHeld_31 : decode cX2_unitsHeld 31 = .ok (.iload_n 1, 1) := by decide +kernel
theorem dX2_unitsHeld_32 : decode cX2_unitsHeld 32 = .ok (.if_icmp .ne 6, 3) := by decide +kernel
theorem dX2_unitsHeld_35 : decode cX2_unitsHeld 35 = .ok (.iinc 2 1, 3) := by decide +kernel
theorem dX2_unitsHeld_38 : decode cX2_unitsHeld 38 = .ok (.iinc 3 1, 3) := by decide +kernel
theorem dX2_unitsHeld_41 : decode cX2_unitsHeld 41 = .ok (.goto (-21), 3) := by decide +kernel
theorem dX2_unitsHeld_44 : decode cX2_unitsHeld 44 = .ok (.iload_n 2, 1) := by decide +kernel
theorem dX2_unitsHeld_45 : decode cX2_unitsHeld 45 = .ok (.ireturn, 1) := by decide +kernel
theorem dX2_mergeThrees_0 : decode cX2_mergeThrees 0 = .ok (.iconst 0, 1) := by decide +kernel
theorem dX2_mergeThrees_1 : decode cX2_mergeThrees 1 = .ok (.istore_n 1, 1) := by decide +kernel
theorem dX2_mergeThrees_2 : decode cX2_mergeThrees 2 = .ok (.iload_n 1, 1) := by decide +kernel
theorem dX2_mergeThrees_3 : decode cX2_mergeThrees 3 = .ok (.bipush 11, 2) := by decide +kernel
theorem dX2_mergeThrees_5 : decode cX2_mergeThrees 5 = .ok (.if_icmp .ge 17, 3) := by decide +kernel
theorem dX2_mergeThrees_8 : decode cX2_mergeThrees 8 = .ok (.aload_n 0, 1) := by decide +kernel
theorem dX2_mergeThrees_9 : decode cX2_mergeThrees 9 = .ok (.invokevirtual 53, 3) := by decide +kernel
theorem dX2_mergeThrees_12 : decode cX2_mergeThrees 12 = .ok (.ifCond .ne 4, 3) := by decide +kernel
theorem dX2_mergeThrees_15 : decode cX2_mergeThrees 15 = .ok (.return_, 1) := by decide +kernel
theorem dX2_mergeThrees_16 : decode cX2_mergeThrees 16 = .ok (.iinc 1 1, 3) := by decide +kernel
theorem dX2_mergeThrees_19 : decode cX2_mergeThrees 19 = .ok (.goto (-17), 3) := by decide +kernel
theorem dX2_mergeThrees_22 : decode cX2_mergeThrees 22 = .ok (.return_, 1) := by decide +kernel
theorem dX2_mergeFirstThree_0 : decode cX2_mergeFirstThree 0 = .ok (.iconst 0, 1) := by decide +kernel
theorem dX2_mergeFirstThree_1 : decode cX2_mergeFirstThree 1 = .ok (.istore_n 1, 1) := by decide +kernel
theorem dX2_mergeFirstThree_2 : decode cX2_mergeFirstThree 2 = .ok (.iload_n 1, 1) := by decide +kernel
theorem dX2_mergeFirstThree_3 : decode cX2_mergeFirstThree 3 = .ok (.bipush 9, 2) := by decide +kernel
theorem dX2_mergeFirstThree_5 : decode cX2_mergeFirstThree 5 = .ok (.if_icmp .ge 53, 3) := by decide +kernel
theorem dX2_mergeFirstThree_8 : decode cX2_mergeFirstThree 8 = .ok (.iconst 1, 1) := by decide +kernel
theorem dX2_mergeFirstThree_9 : decode cX2_mergeFirstThree 9 = .ok (.istore_n 2, 1) := by decide +kernel
theorem dX2_mergeFirstThree_10 : decode cX2_mergeFirstThree 10 = .ok (.iload_n 2, 1) := by decide +kernel
theorem dX2_mergeFirstThree_11 : decode cX2_mergeFirstThree 11 = .ok (.iconst 3, 1) := by decide +kernel
theorem dX2_mergeFirstThree_12 : decode cX2_mergeFirstThree 12 = .ok (.if_icmp .ge 40, 3) := by decide +kernel
theorem dX2_mergeFirstThree_15 : decode cX2_mergeFirstThree 15 = .ok (.aload_n 0, 1) := by decide +kernel
theorem dX2_mergeFirstThree_16 : decode cX2_mergeFirstThree 16 = .ok (.getfield 34, 3) := by decide +kernel
theorem dX2_mergeFirstThree_19 : decode cX2_mergeFirstThree 19 = .ok (.iload_n 1, 1) := by decide +kernel
theorem dX2_mergeFirstThree_20 : decode cX2_mergeFirstThree 20 = .ok (.iload_n 2, 1) := by decide +kernel
theorem dX2_mergeFirstThree_21 : decode cX2_mergeFirstThree 21 = .ok (.invokevirtual 57, 3) := by decide +kernel
theorem dX2_mergeFirstThree_24 : decode cX2_mergeFirstThree 24 = .ok (.aload_n 0, 1) := by decide +kernel
theorem dX2_mergeFirstThree_25 : decode cX2_mergeFirstThree 25 = .ok (.getfield 30, 3) := by decide +kernel
theorem dX2_mergeFirstThree_28 : decode cX2_mergeFirstThree 28 = .ok (.iload_n 1, 1) := by decide +kernel
theorem dX2_mergeFirstThree_29 : decode cX2_mergeFirstThree 29 = .ok (.iload_n 2, 1) := by decide +kernel
theorem dX2_mergeFirstThree_30 : decode cX2_mergeFirstThree 30 = .ok (.invokevirtual 57, 3) := by decide +kernel
theorem dX2_mergeFirstThree_33 : decode cX2_mergeFirstThree 33 = .ok (.iadd, 1) := by decide +kernel
theorem dX2_mergeFirstThree_34 : decode cX2_mergeFirstThree 34 = .ok (.iconst 3, 1) := by decide +kernel
theorem dX2_mergeFirstThree_35 : decode cX2_mergeFirstThree 35 = .ok (.if_icmp .lt 11, 3) := by decide +kernel
theorem dX2_mergeFirstThree_38 : decode cX2_mergeFirstThree 38 = .ok (.aload_n 0, 1) := by decide +kernel
theorem dX2_mergeFirstThree_39 : decode cX2_mergeFirstThree 39 = .ok (.iload_n 1, 1) := by decide +kernel
theorem dX2_mergeFirstThree_40 : decode cX2_mergeFirstThree 40 = .ok (.iload_n 2, 1) := by decide +kernel
theorem dX2_mergeFirstThree_41 : decode cX2_mergeFirstThree 41 = .ok (.invokevirtual 60, 3) := by decide +kernel
theorem dX2_mergeFirstThree_44 : decode cX2_mergeFirstThree 44 = .ok (.iconst 1, 1) := by decide +kernel
theorem dX2_mergeFirstThree_45 : decode cX2_mergeFirstThree 45 = .ok (.ireturn, 1) := by decide +kernel
theorem dX2_mergeFirstThree_46 : decode cX2_mergeFirstThree 46 = .ok (.iinc 2 1, 3) := by decide +kernel
theorem dX2_mergeFirstThree_49 : decode cX2_mergeFirstThree 49 = .ok (.goto (-39), 3) := by decide +kernel
theorem dX2_mergeFirstThree_52 : decode cX2_mergeFirstThree 52 = .ok (.iinc 1 1, 3) := by decide +kernel
theorem dX2_mergeFirstThree_55 : decode cX2_mergeFirstThree 55 = .ok (.goto (-53), 3) := by decide +kernel
theorem dX2_mergeFirstThree_58 : decode cX2_mergeFirstThree 58 = .ok (.iconst 0, 1) := by decide +kernel
theorem dX2_mergeFirstThree_59 : decode cX2_mergeFirstThree 59 = .ok (.ireturn, 1) := by decide +kernel
theorem dX2_mergeThree_0 : decode cX2_mergeThree 0 = .ok (.aload_n 0, 1) := by decide +kernel
theorem dX2_mergeThree_1 : decode cX2_mergeThree 1 = .ok (.iload_n 1, 1) := by decide +kernel
theorem dX2_mergeThree_2 : decode cX2_mergeThree 2 = .ok (.iload_n 2, 1) := by decide +kernel
theorem dX2_mergeThree_3 : decode cX2_mergeThree 3 = .ok (.invokevirtual 64, 3) := by decide +kernel
theorem dX2_mergeThree_6 : decode cX2_mergeThree 6 = .ok (.astore_n 3, 1) := by decide +kernel
theorem dX2_mergeThree_7 : decode cX2_mergeThree 7 = .ok (.aload_n 3, 1) := by decide +kernel
theorem dX2_mergeThree_8 : decode cX2_mergeThree 8 = .ok (.iload_n 1, 1) := by decide +kernel
theorem dX2_mergeThree_9 : decode cX2_mergeThree 9 = .ok (.iload_n 2, 1) := by decide +kernel
theorem dX2_mergeThree_10 : decode cX2_mergeThree 10 = .ok (.invokevirtual 68, 3) := by decide +kernel
theorem dX2_mergeThree_13 : decode cX2_mergeThree 13 = .ok (.istore 4, 2) := by decide +kernel
theorem dX2_mergeThree_15 : decode cX2_mergeThree 15 = .ok (.iload 4, 2) := by decide +kernel
theorem dX2_mergeThree_17 : decode cX2_mergeThree 17 = .ok (.iconst (-1), 1) := by decide +kernel
theorem dX2_mergeThree_18 : decode cX2_mergeThree 18 = .ok (.if_icmp .eq 14, 3) := by decide +kernel
theorem dX2_mergeThree_21 : decode cX2_mergeThree 21 = .ok (.aload_n 3, 1) := by decide +kernel
theorem dX2_mergeThree_22 : decode cX2_mergeThree 22 = .ok (.getfield 71, 3) := by decide +kernel
theorem dX2_mergeThree_25 : decode cX2_mergeThree 25 = .ok (.iload 4, 2) := by decide +kernel
theorem dX2_mergeThree_27 : decode cX2_mergeThree 27 = .ok (.dup2, 1) := by decide +kernel
theorem dX2_mergeThree_28 : decode cX2_mergeThree 28 = .ok (.iaload, 1) := by decide +kernel
theorem dX2_mergeThree_29 : decode cX2_mergeThree 29 = .ok (.iconst 1, 1) := by decide +kernel
theorem dX2_mergeThree_30 : decode cX2_mergeThree 30 = .ok (.iadd, 1) := by decide +kernel
theorem dX2_mergeThree_31 : decode cX2_mergeThree 31 = .ok (.iastore, 1) := by decide +kernel
theorem dX2_mergeThree_32 : decode cX2_mergeThree 32 = .ok (.iconst 0, 1) := by decide +kernel
theorem dX2_mergeThree_33 : decode cX2_mergeThree 33 = .ok (.istore 5, 2) := by decide +kernel
theorem dX2_mergeThree_35 : decode cX2_mergeThree 35 = .ok (.iload 5, 2) := by decide +kernel
theorem dX2_mergeThree_37 : decode cX2_mergeThree 37 = .ok (.iconst 2, 1) := by decide +kernel
theorem dX2_mergeThree_38 : decode cX2_mergeThree 38 = .ok (.if_icmp .ge 29, 3) := by decide +kernel
theorem dX2_mergeThree_41 : decode cX2_mergeThree 41 = .ok (.aload_n 0, 1) := by decide +kernel
theorem dX2_mergeThree_42 : decode cX2_mergeThree 42 = .ok (.iload_n 1, 1) := by decide +kernel
theorem dX2_mergeThree_43 : decode cX2_mergeThree 43 = .ok (.iload_n 2, 1) := by decide +kernel
theorem dX2_mergeThree_44 : decode cX2_mergeThree 44 = .ok (.invokevirtual 64, 3) := by decide +kernel
theorem dX2_mergeThree_47 : decode cX2_mergeThree 47 = .ok (.astore 6, 2) := by decide +kernel
theorem dX2_mergeThree_49 : decode cX2_mergeThree 49 = .ok (.aload 6, 2) := by decide +kernel
theorem dX2_mergeThree_51 : decode cX2_mergeThree 51 = .ok (.aload 6, 2) := by decide +kernel
theorem dX2_mergeThree_53 : decode cX2_mergeThree 53 = .ok (.iload_n 1, 1) := by decide +kernel
theorem dX2_mergeThree_54 : decode cX2_mergeThree 54 = .ok (.iload_n 2, 1) := by decide +kernel
theorem dX2_mergeThree_55 : decode cX2_mergeThree 55 = .ok (.invokevirtual 68, 3) := by decide +kernel
theorem dX2_mergeThree_58 : decode cX2_mergeThree 58 = .ok (.invokevirtual 74, 3) := by decide +kernel
theorem dX2_mergeThree_61 : decode cX2_mergeThree 61 = .ok (.iinc 5 1, 3) := by decide +kernel
theorem dX2_mergeThree_64 : decode cX2_mergeThree 64 = .ok (.goto (-29), 3) := by decide +kernel
theorem dX2_mergeThree_67 : decode cX2_mergeThree 67 = .ok (.return_, 1) := by decide +kernel
theorem dX2_rowOfFirst_0 : decode cX2_rowOfFirst 0 = .ok (.aload_n 0, 1) := by decide +kernel
theorem dX2_rowOfFirst_1 : decode cX2_rowOfFirst 1 = .ok (.getfield 34, 3) := by decide +kernel
theorem dX2_rowOfFirst_4 : decode cX2_rowOfFirst 4 = .ok (.iload_n 1, 1) := by decide +kernel
theorem dX2_rowOfFirst_5 : decode cX2_rowOfFirst 5 = .ok (.iload_n 2, 1) := by decide +kernel
theorem dX2_rowOfFirst_6 : decode cX2_rowOfFirst 6 = .ok (.invokevirtual 68, 3) := by decide +kernel
theorem dX2_rowOfFirst_9 : decode cX2_rowOfFirst 9 = .ok (.iconst (-1), 1) := by decide +kernel
theorem dX2_rowOfFirst_10 : decode cX2_rowOfFirst 10 = .ok (.if_icmp .eq 10, 3) := by decide +kernel
theorem dX2_rowOfFirst_13 : decode cX2_rowOfFirst 13 = .ok (.aload_n 0, 1) := by decide +kernel
theorem dX2_rowOfFirst_14 : decode cX2_rowOfFirst 14 = .ok (.getfield 34, 3) := by decide +kernel
theorem dX2_rowOfFirst_17 : decode cX2_rowOfFirst 17 = .ok (.goto 7, 3) := by decide +kernel
theorem dX2_rowOfFirst_20 : decode cX2_rowOfFirst 20 = .ok (.aload_n 0, 1) := by decide +kernel
theorem dX2_rowOfFirst_21 : decode cX2_rowOfFirst 21 = .ok (.getfield 30, 3) := by decide +kernel
theorem dX2_rowOfFirst_24 : decode cX2_rowOfFirst 24 = .ok (.areturn, 1) := by decide +kernel
theorem dX3_init_0 : decode cX3_init 0 = .ok (.aload_n 0, 1) := by decide +kernel
theorem dX3_init_1 : decode cX3_init 1 = .ok (.invokespecial 3, 3) := by decide +kernel
theorem dX3_init_4 : decode cX3_init 4 = .ok (.aload_n 0, 1) := by decide +kernel
theorem dX3_init_5 : decode cX3_init 5 = .ok (.bipush 9, 2) := by decide +kernel
theorem dX3_init_7 : decode cX3_init 7 = .ok (.newarray .int, 2) := by decide +kernel
theorem dX3_init_9 : decode cX3_init 9 = .ok (.putfield 9, 3) := by decide +kernel
theorem dX3_init_12 : decode cX3_init 12 = .ok (.iconst 0, 1) := by decide +kernel
theorem dX3_init_13 : decode cX3_init 13 = .ok (.istore_n 1, 1) := by decide +kernel
theorem dX3_init_14 : decode cX3_init 14 = .ok (.iload_n 1, 1) := by decide +kernel
theorem dX3_init_15 : decode cX3_init 15 = .ok (.bipush 9, 2) := by decide +kernel
theorem dX3_init_17 : decode cX3_init 17 = .ok (.if_icmp .ge 17, 3) := by decide +kernel
theorem dX3_init_20 : decode cX3_init 20 = .ok (.aload_n 0, 1) := by decide +kernel
theorem dX3_init_21 : decode cX3_init 21 = .ok (.getfield 9, 3) := by decide +kernel
theorem dX3_init_24 : decode cX3_init 24 = .ok (.iload_n 1, 1) := by decide +kernel
theorem dX3_init_25 : decode cX3_init 25 = .ok (.bipush 9, 2) := by decide +kernel
theorem dX3_init_27 : decode cX3_init 27 = .ok (.iastore, 1) := by decide +kernel
theorem dX3_init_28 : decode cX3_init 28 = .ok (.iinc 1 1, 3) := by decide +kernel
theorem dX3_init_31 : decode cX3_init 31 = .ok (.goto (-17), 3) := by decide +kernel
theorem dX3_init_34 : decode cX3_init 34 = .ok (.return_, 1) := by decide +kernel
theorem dX3_putBack_0 : decode cX3_putBack 0 = .ok (.iload_n 1, 1) := by decide +kernel
theorem dX3_putBack_1 : decode cX3_putBack 1 = .ok (.ifCond .lt 19, 3) := by decide +kernel
theorem dX3_putBack_4 : decode cX3_putBack 4 = .ok (.iload_n 1, 1) := by decide +kernel
theorem dX3_putBack_5 : decode cX3_putBack 5 = .ok (.bipush 9, 2) := by decide +kernel
theorem dX3_putBack_7 : decode cX3_putBack 7 = .ok (.if_icmp .ge 13, 3) := by decide +kernel
theorem dX3_putBack_10 : decode cX3_putBack 10 = .ok (.aload_n 0, 1) := by decide +kernel
theorem dX3_putBack_11 : decode cX3_putBack 11 = .ok (.getfield 9, 3) := by decide +kernel
theorem dX3_putBack_14 : decode cX3_putBack 14 = .ok (.iload_n 1, 1) := by decide +kernel
theorem dX3_putBack_15 : decode cX3_putBack 15 = .ok (.dup2, 1) := by decide +kernel
theorem dX3_putBack_16 : decode cX3_putBack 16 = .ok (.iaload, 1) := by decide +kernel
theorem dX3_putBack_17 : decode cX3_putBack 17 = .ok (.iload_n 2, 1) := by decide +kernel
theorem dX3_putBack_18 : decode cX3_putBack 18 = .ok (.iadd, 1) := by decide +kernel
theorem dX3_putBack_19 : decode cX3_putBack 19 = .ok (.iastore, 1) := by decide +kernel
theorem dX3_putBack_20 : decode cX3_putBack 20 = .ok (.return_, 1) := by decide +kernel
theorem dX3_unitsUpTo_0 : decode cX3_unitsUpTo 0 = .ok (.iconst 0, 1) := by decide +kernel
theorem dX3_unitsUpTo_1 : decode cX3_unitsUpTo 1 = .ok (.istore_n 2, 1) := by decide +kernel
theorem dX3_unitsUpTo_2 : decode cX3_unitsUpTo 2 = .ok (.iconst 0, 1) := by decide +kernel
theorem dX3_unitsUpTo_3 : decode cX3_unitsUpTo 3 = .ok (.istore_n 3, 1) := by decide +kernel
theorem dX3_unitsUpTo_4 : decode cX3_unitsUpTo 4 = .ok (.iload_n 3, 1) := by decide +kernel
theorem dX3_unitsUpTo_5 : decode cX3_unitsUpTo 5 = .ok (.bipush 9, 2) := by decide +kernel
theorem dX3_unitsUpTo_7 : decode cX3_unitsUpTo 7 = .ok (.if_icmp .ge 26, 3) := by decide +kernel
theorem dX3_unitsUpTo_10 : decode cX3_unitsUpTo 10 = .ok (.iload_n 3, 1) := by decide +kernel
theorem dX3_unitsUpTo_11 : decode cX3_unitsUpTo 11 = .ok (.invokestatic 15, 3) := by decide +kernel
theorem dX3_unitsUpTo_14 : decode cX3_unitsUpTo 14 = .ok (.iload_n 1, 1) := by decide +kernel
theorem dX3_unitsUpTo_15 : decode cX3_unitsUpTo 15 = .ok (.if_icmp .gt 12, 3) := by decide +kernel
theorem dX3_unitsUpTo_18 : decode cX3_unitsUpTo 18 = .ok (.iload_n 2, 1) := by decide +kernel
theorem dX3_unitsUpTo_19 : decode cX3_unitsUpTo 19 = .ok (.aload_n 0, 1) := by decide +kernel
theorem dX3_unitsUpTo_20 : decode cX3_unitsUpTo 20 = .ok (.getfield 9, 3) := by decide +kernel
theorem dX3_unitsUpTo_23 : decode cX3_unitsUpTo 23 = .ok (.iload_n 3, 1) := by decide +kernel
theorem dX3_unitsUpTo_24 : decode cX3_unitsUpTo 24 = .ok (.iaload, 1) := by decide +kernel
theorem dX3_unitsUpTo_25 : decode cX3_unitsUpTo 25 = .ok (.iadd, 1) := by decide +kernel
theorem dX3_unitsUpTo_26 : decode cX3_unitsUpTo 26 = .ok (.istore_n 2, 1) := by decide +kernel
theorem dX3_unitsUpTo_27 : decode cX3_unitsUpTo 27 = .ok (.iinc 3 1, 3) := by decide +kernel
theorem dX3_unitsUpTo_30 : decode cX3_unitsUpTo 30 = .ok (.goto (-26), 3) := by decide +kernel
theorem dX3_unitsUpTo_33 : decode cX3_unitsUpTo 33 = .ok (.iload_n 2, 1) := by decide +kernel
theorem dX3_unitsUpTo_34 : decode cX3_unitsUpTo 34 = .ok (.ireturn, 1) := by decide +kernel
theorem dX3_draw_0 : decode cX3_draw 0 = .ok (.aload_n 0, 1) := by decide +kernel
theorem dX3_draw_1 : decode cX3_draw 1 = .ok (.iload_n 2, 1) := by decide +kernel
theorem dX3_draw_2 : decode cX3_draw 2 = .ok (.invokevirtual 19, 3) := by decide +kernel
theorem dX3_draw_5 : decode cX3_draw 5 = .ok (.istore_n 3, 1) := by decide +kernel
theorem dX3_draw_6 : decode cX3_draw 6 = .ok (.iload_n 3, 1) := by decide +kernel
theorem dX3_draw_7 : decode cX3_draw 7 = .ok (.ifCond .gt 5, 3) := by decide +kernel
theorem dX3_draw_10 : decode cX3_draw 10 = .ok (.iconst (-1), 1) := by decide +kernel
theorem dX3_draw_11 : decode cX3_draw 11 = .ok (.ireturn, 1) := by decide +kernel
theorem dX3_draw_12 : decode cX3_draw 12 = .ok (.iload_n 1, 1) := by decide +kernel
theorem dX3_draw_13 : decode cX3_draw 13 = .ok (.iload_n 3, 1) := by decide +kernel
theorem dX3_draw_14 : decode cX3_draw 14 = .ok (.irem, 1) := by decide +kernel
theorem dX3_draw_15 : decode cX3_draw 15 = .ok (.istore 4, 2) := by decide +kernel
theorem dX3_draw_17 : decode cX3_draw 17 = .ok (.iconst 0, 1) := by decide +kernel
theorem dX3_draw_18 : decode cX3_draw 18 = .ok (.istore 5, 2) := by decide +kernel
theorem dX3_draw_20 : decode cX3_draw 20 = .ok (.iload 5, 2) := by decide +kernel
theorem dX3_draw_22 : decode cX3_draw 22 = .ok (.bipush 9, 2) := by decide +kernel
theorem dX3_draw_24 : decode cX3_draw 24 = .ok (.if_icmp .ge 47, 3) := by decide +kernel
theorem dX3_draw_27 : decode cX3_draw 27 = .ok (.iload 4, 2) := by decide +kernel
theorem dX3_draw_29 : decode cX3_draw 29 = .ok (.aload_n 0, 1) := by decide +kernel
theorem dX3_draw_30 : decode cX3_draw 30 = .ok (.getfield 9, 3) := by decide +kernel
theorem dX3_draw_33 : decode cX3_draw 33 = .ok (.iload 5, 2) := by decide +kernel
theorem dX3_draw_35 : decode cX3_draw 35 = .ok (.iaload, 1) := by decide +kernel
theorem dX3_draw_36 : decode cX3_draw 36 = .ok (.if_icmp .ge 17, 3) := by decide +kernel
theorem dX3_draw_39 : decode cX3_draw 39 = .ok (.aload_n 0, 1) := by decide +kernel
theorem dX3_draw_40 : decode cX3_draw 40 = .ok (.getfield 9, 3) := by decide +kernel
theorem dX3_draw_43 : decode cX3_draw 43 = .ok (.iload 5, 2) := by decide +kernel
theorem dX3_draw_45 : decode cX3_draw 45 = .ok (.dup2, 1) := by decide +kernel
theorem dX3_draw_46 : decode cX3_draw 46 = .ok (.iaload, 1) := by decide +kernel
theorem dX3_draw_47 : decode cX3_draw 47 = .ok (.iconst 1, 1) := by decide +kernel
theorem dX3_draw_48 : decode cX3_draw 48 = .ok (.isub, 1) := by decide +kernel
theorem dX3_draw_49 : decode cX3_draw 49 = .ok (.iastore, 1) := by decide +kernel
theorem dX3_draw_50 : decode cX3_draw 50 = .ok (.iload 5, 2) := by decide +kernel
theorem dX3_draw_52 : decode cX3_draw 52 = .ok (.ireturn, 1) := by decide +kernel
theorem dX3_draw_53 : decode cX3_draw 53 = .ok (.iload 4, 2) := by decide +kernel
theorem dX3_draw_55 : decode cX3_draw 55 = .ok (.aload_n 0, 1) := by decide +kernel
theorem dX3_draw_56 : decode cX3_draw 56 = .ok (.getfield 9, 3) := by decide +kernel
theorem dX3_draw_59 : decode cX3_draw 59 = .ok (.iload 5, 2) := by decide +kernel
theorem dX3_draw_61 : decode cX3_draw 61 = .ok (.iaload, 1) := by decide +kernel
theorem dX3_draw_62 : decode cX3_draw 62 = .ok (.isub, 1) := by decide +kernel
theorem dX3_draw_63 : decode cX3_draw 63 = .ok (.istore 4, 2) := by decide +kernel
theorem dX3_draw_65 : decode cX3_draw 65 = .ok (.iinc 5 1, 3) := by decide +kernel
theorem dX3_draw_68 : decode cX3_draw 68 = .ok (.goto (-48), 3) := by decide +kernel
theorem dX3_draw_71 : decode cX3_draw 71 = .ok (.iconst (-1), 1) := by decide +kernel
theorem dX3_draw_72 : decode cX3_draw 72 = .ok (.ireturn, 1) := by decide +kernel
theorem dX4_init_0 : decode cX4_init 0 = .ok (.aload_n 0, 1) := by decide +kernel
theorem dX4_init_1 : decode cX4_init 1 = .ok (.invokespecial 3, 3) := by decide +kernel
theorem dX4_init_4 : decode cX4_init 4 = .ok (.aload_n 0, 1) := by decide +kernel
theorem dX4_init_5 : decode cX4_init 5 = .ok (.iconst 5, 1) := by decide +kernel
theorem dX4_init_6 : decode cX4_init 6 = .ok (.newarray .int, 2) := by decide +kernel
theorem dX4_init_8 : decode cX4_init 8 = .ok (.putfield 9, 3) := by decide +kernel
theorem dX4_init_11 : decode cX4_init 11 = .ok (.aload_n 0, 1) := by decide +kernel
theorem dX4_init_12 : decode cX4_init 12 = .ok (.iconst 5, 1) := by decide +kernel
theorem dX4_init_13 : decode cX4_init 13 = .ok (.newarray .int, 2) := by decide +kernel
theorem dX4_init_15 : decode cX4_init 15 = .ok (.putfield 15, 3) := by decide +kernel
theorem dX4_init_18 : decode cX4_init 18 = .ok (.return_, 1) := by decide +kernel
theorem dX4_muster_0 : decode cX4_muster 0 = .ok (.aload_n 0, 1) := by decide +kernel
theorem dX4_muster_1 : decode cX4_muster 1 = .ok (.aload_n 1, 1) := by decide +kernel
theorem dX4_muster_2 : decode cX4_muster 2 = .ok (.getfield 18, 3) := by decide +kernel
theorem dX4_muster_5 : decode cX4_muster 5 = .ok (.iconst 5, 1) := by decide +kernel
theorem dX4_muster_6 : decode cX4_muster 6 = .ok (.invokestatic 24, 3) := by decide +kernel
theorem dX4_muster_9 : decode cX4_muster 9 = .ok (.putfield 30, 3) := by decide +kernel
theorem dX4_muster_12 : decode cX4_muster 12 = .ok (.aload_n 0, 1) := by decide +kernel
theorem dX4_muster_13 : decode cX4_muster 13 = .ok (.iconst 0, 1) := by decide +kernel
theorem dX4_muster_14 : decode cX4_muster 14 = .ok (.putfield 31, 3) := by decide +kernel
theorem dX4_muster_17 : decode cX4_muster 17 = .ok (.iconst 0, 1) := by decide +kernel
theorem dX4_muster_18 : decode cX4_muster 18 = .ok (.istore_n 2, 1) := by decide +kernel
theorem dX4_muster_19 : decode cX4_muster 19 = .ok (.iload_n 2, 1) := by decide +kernel
theorem dX4_muster_20 : decode cX4_muster 20 = .ok (.aload_n 0, 1) := by decide +kernel
theorem dX4_muster_21 : decode cX4_muster 21 = .ok (.getfield 30, 3) := by decide +kernel
theorem dX4_muster_24 : decode cX4_muster 24 = .ok (.if_icmp .ge 31, 3) := by decide +kernel
theorem dX4_muster_27 : decode cX4_muster 27 = .ok (.aload_n 0, 1) := by decide +kernel
theorem dX4_muster_28 : decode cX4_muster 28 = .ok (.getfield 9, 3) := by decide +kernel
theorem dX4_muster_31 : decode cX4_muster 31 = .ok (.iload_n 2, 1) := by decide +kernel
theorem dX4_muster_32 : decode cX4_muster 32 = .ok (.aload_n 1, 1) := by decide +kernel
theorem dX4_muster_33 : decode cX4_muster 33 = .ok (.iload_n 2, 1) := by decide +kernel
theorem dX4_muster_34 : decode cX4_muster 34 = .ok (.invokevirtual 34, 3) := by decide +kernel
theorem dX4_muster_37 : decode cX4_muster 37 = .ok (.iastore, 1) := by decide +kernel
theorem dX4_muster_38 : decode cX4_muster 38 = .ok (.aload_n 0, 1) := by decide +kernel
theorem dX4_muster_39 : decode cX4_muster 39 = .ok (.getfield 15, 3) := by decide +kernel
theorem dX4_muster_42 : decode cX4_muster 42 = .ok (.iload_n 2, 1) := by decide +kernel
theorem dX4_muster_43 : decode cX4_muster 43 = .ok (.aload_n 1, 1) := by decide +kernel
theorem dX4_muster_44 : decode cX4_muster 44 = .ok (.iload_n 2, 1) := by decide +kernel
theorem dX4_muster_45 : decode cX4_muster 45 = .ok (.invokevirtual 38, 3) := by decide +kernel
theorem dX4_muster_48 : decode cX4_muster 48 = .ok (.iastore, 1) := by decide +kernel
theorem dX4_muster_49 : decode cX4_muster 49 = .ok (.iinc 2 1, 3) := by decide +kernel
theorem dX4_muster_52 : decode cX4_muster 52 = .ok (.goto (-33), 3) := by decide +kernel
theorem dX4_muster_55 : decode cX4_muster 55 = .ok (.return_, 1) := by decide +kernel
theorem dX4_living_0 : decode cX4_living 0 = .ok (.iconst 0, 1) := by decide +kernel
theorem dX4_living_1 : decode cX4_living 1 = .ok (.istore_n 1, 1) := by decide +kernel
theorem dX4_living_2 : decode cX4_living 2 = .ok (.iconst 0, 1) := by decide +kernel
theorem dX4_living_3 : decode cX4_living 3 = .ok (.istore_n 2, 1) := by decide +kernel
theorem dX4_living_4 : decode cX4_living 4 = .ok (.iload_n 2, 1) := by decide +kernel
theorem dX4_living_5 : decode cX4_living 5 = .ok (.aload_n 0, 1) := by decide +kernel
theorem dX4_living_6 : decode cX4_living 6 = .ok (.getfield 30, 3) := by decide +kernel
theorem dX4_living_9 : decode cX4_living 9 = .ok (.if_icmp .ge 21, 3) := by decide +kernel
theorem dX4_living_12 : decode cX4_living 12 = .ok (.aload_n 0, 1) := by decide +kernel
theorem dX4_living_13 : decode cX4_living 13 = .ok (.getfield 9, 3) := by decide +kernel
theorem dX4_living_16 : decode cX4_living 16 = .ok (.iload_n 2, 1) := by decide +kernel
theorem dX4_living_17 : decode cX4_living 17 = .ok (.iaload, 1) := by decide +kernel
theorem dX4_living_18 : decode cX4_living 18 = .ok (.ifCond .le 6, 3) := by decide +kernel
theorem dX4_living_21 : decode cX4_living 21 = .ok (.iinc 1 1, 3) := by decide +kernel
theorem dX4_living_24 : decode cX4_living 24 = .ok (.iinc 2 1, 3) := by decide +kernel
theorem dX4_living_27 : decode cX4_living 27 = .ok (.goto (-23), 3) := by decide +kernel
theorem dX4_living_30 : decode cX4_living 30 = .ok (.iload_n 1, 1) := by decide +kernel
theorem dX4_living_31 : decode cX4_living 31 = .ok (.ireturn, 1) := by decide +kernel
theorem dX4_firstLiving_0 : decode cX4_firstLiving 0 = .ok (.iconst 0, 1) := by decide +kernel
theorem dX4_firstLiving_1 : decode cX4_firstLiving 1 = .ok (.istore_n 1, 1) := by decide +kernel
theorem dX4_firstLiving_2 : decode cX4_firstLiving 2 = .ok (.iload_n 1, 1) := by decide +kernel
theorem dX4_firstLiving_3 : decode cX4_firstLiving 3 = .ok (.aload_n 0, 1) := by decide +kernel
theorem dX4_firstLiving_4 : decode cX4_firstLiving 4 = .ok (.getfield 30, 3) := by decide +kernel
theorem dX4_firstLiving_7 : decode cX4_firstLiving 7 = .ok (.if_icmp .ge 20, 3) := by decide +kernel
theorem dX4_firstLiving_10 : decode cX4_firstLiving 10 = .ok (.aload_n 0, 1) := by decide +kernel
theorem dX4_firstLiving_11 : decode cX4_firstLiving 11 = .ok (.getfield 9, 3) := by decide +kernel
theorem dX4_firstLiving_14 : decode cX4_firstLiving 14 = .ok (.iload_n 1, 1) := by decide +kernel
theorem dX4_firstLiving_15 : decode cX4_firstLiving 15 = .ok (.iaload, 1) := by decide +kernel
theorem dX4_firstLiving_16 : decode cX4_firstLiving 16 = .ok (.ifCond .le 5, 3) := by decide +kernel
theorem dX4_firstLiving_19 : decode cX4_firstLiving 19 = .ok (.iload_n 1, 1) := by decide +kernel
theorem dX4_firstLiving_20 : decode cX4_firstLiving 20 = .ok (.ireturn, 1) := by decide +kernel
theorem dX4_firstLiving_21 : decode cX4_firstLiving 21 = .ok (.iinc 1 1, 3) := by decide +kernel
theorem dX4_firstLiving_24 : decode cX4_firstLiving 24 = .ok (.goto (-22), 3) := by decide +kernel
theorem dX4_firstLiving_27 : decode cX4_firstLiving 27 = .ok (.iconst (-1), 1) := by decide +kernel
theorem dX4_firstLiving_28 : decode cX4_firstLiving 28 = .ok (.ireturn, 1) := by decide +kernel
theorem dX4_takeBlow_0 : decode cX4_takeBlow 0 = .ok (.iload_n 1, 1) := by decide +kernel
theorem dX4_takeBlow_1 : decode cX4_takeBlow 1 = .ok (.ifCond .lt 21, 3) := by decide +kernel
theorem dX4_takeBlow_4 : decode cX4_takeBlow 4 = .ok (.iload_n 1, 1) := by decide +kernel
theorem dX4_takeBlow_5 : decode cX4_takeBlow 5 = .ok (.aload_n 0, 1) := by decide +kernel
theorem dX4_takeBlow_6 : decode cX4_takeBlow 6 = .ok (.getfield 30, 3) := by decide +kernel
theorem dX4_takeBlow_9 : decode cX4_takeBlow 9 = .ok (.if_icmp .ge 13, 3) := by decide +kernel
theorem dX4_takeBlow_12 : decode cX4_takeBlow 12 = .ok (.aload_n 0, 1) := by decide +kernel
theorem dX4_takeBlow_13 : decode cX4_takeBlow 13 = .ok (.getfield 9, 3) := by decide +kernel
theorem dX4_takeBlow_16 : decode cX4_takeBlow 16 = .ok (.iload_n 1, 1) := by decide +kernel
theorem dX4_takeBlow_17 : decode cX4_takeBlow 17 = .ok (.dup2, 1) := by decide +kernel
theorem dX4_takeBlow_18 : decode cX4_takeBlow 18 = .ok (.iaload, 1) := by decide +kernel
theorem dX4_takeBlow_19 : decode cX4_takeBlow 19 = .ok (.iload_n 2, 1) := by decide +kernel
theorem dX4_takeBlow_20 : decode cX4_takeBlow 20 = .ok (.isub, 1) := by decide +kernel
theorem dX4_takeBlow_21 : decode cX4_takeBlow 21 = .ok (.iastore, 1) := by decide +kernel
theorem dX4_takeBlow_22 : decode cX4_takeBlow 22 = .ok (.return_, 1) := by decide +kernel
theorem dX4_takeTurn_0 : decode cX4_takeTurn 0 = .ok (.iconst 0, 1) := by decide +kernel
theorem dX4_takeTurn_1 : decode cX4_takeTurn 1 = .ok (.istore_n 1, 1) := by decide +kernel
theorem dX4_takeTurn_2 : decode cX4_takeTurn 2 = .ok (.iload_n 1, 1) := by decide +kernel
theorem dX4_takeTurn_3 : decode cX4_takeTurn 3 = .ok (.aload_n 0, 1) := by decide +kernel
theorem dX4_takeTurn_4 : decode cX4_takeTurn 4 = .ok (.getfield 30, 3) := by decide +kernel
theorem dX4_takeTurn_7 : decode cX4_takeTurn 7 = .ok (.if_icmp .ge 39, 3) := by decide +kernel
theorem dX4_takeTurn_10 : decode cX4_takeTurn 10 = .ok (.aload_n 0, 1) := by decide +kernel
theorem dX4_takeTurn_11 : decode cX4_takeTurn 11 = .ok (.getfield 31, 3) := by decide +kernel
theorem dX4_takeTurn_14 : decode cX4_takeTurn 14 = .ok (.iload_n 1, 1) := by decide +kernel
theorem dX4_takeTurn_15 : decode cX4_takeTurn 15 = .ok (.iadd, 1) := by decide +kernel
theorem dX4_takeTurn_16 : decode cX4_takeTurn 16 = .ok (.aload_n 0, 1) := by decide +kernel
theorem dX4_takeTurn_17 : decode cX4_takeTurn 17 = .ok (.getfield 30, 3) := by decide +kernel
theorem dX4_takeTurn_20 : decode cX4_takeTurn 20 = .ok (.irem, 1) := by decide +kernel
theorem dX4_takeTurn_21 : decode cX4_takeTurn 21 = .ok (.istore_n 2, 1) := by decide +kernel
theorem dX4_takeTurn_22 : decode cX4_takeTurn 22 = .ok (.aload_n 0, 1) := by decide +kernel
theorem dX4_takeTurn_23 : decode cX4_takeTurn 23 = .ok (.getfield 9, 3) := by decide +kernel
theorem dX4_takeTurn_26 : decode cX4_takeTurn 26 = .ok (.iload_n 2, 1) := by decide +kernel
theorem dX4_takeTurn_27 : decode cX4_takeTurn 27 = .ok (.iaload, 1) := by decide +kernel
theorem dX4_takeTurn_28 : decode cX4_takeTurn 28 = .ok (.ifCond .le 12, 3) := by decide +kernel
theorem dX4_takeTurn_31 : decode cX4_takeTurn 31 = .ok (.aload_n 0, 1) := by decide +kernel
theorem dX4_takeTurn_32 : decode cX4_takeTurn 32 = .ok (.iload_n 2, 1) := by decide +kernel
theorem dX4_takeTurn_33 : decode cX4_takeTurn 33 = .ok (.iconst 1, 1) := by decide +kernel
theorem dX4_takeTurn_34 : decode cX4_takeTurn 34 = .ok (.iadd, 1) := by decide +kernel
theorem dX4_takeTurn_35 : decode cX4_takeTurn 35 = .ok (.putfield 31, 3) := by decide +kernel
theorem dX4_takeTurn_38 : decode cX4_takeTurn 38 = .ok (.iload_n 2, 1) := by decide +kernel
theorem dX4_takeTurn_39 : decode cX4_takeTurn 39 = .ok (.ireturn, 1) := by decide +kernel
theorem dX4_takeTurn_40 : decode cX4_takeTurn 40 = .ok (.iinc 1 1, 3) := by decide +kernel
theorem dX4_takeTurn_43 : decode cX4_takeTurn 43 = .ok (.goto (-41), 3) := by decide +kernel
theorem dX4_takeTurn_46 : decode cX4_takeTurn 46 = .ok (.iconst (-1), 1) := by decide +kernel
theorem dX4_takeTurn_47 : decode cX4_takeTurn 47 = .ok (.ireturn, 1) := by decide +kernel
theorem dX5_init_0 : decode cX5_init 0 = .ok (.aload_n 0, 1) := by decide +kernel
theorem dX5_init_1 : decode cX5_init 1 = .ok (.invokespecial 3, 3) := by decide +kernel
theorem dX5_init_4 : decode cX5_init 4 = .ok (.aload_n 0, 1) := by decide +kernel
theorem dX5_init_5 : decode cX5_init 5 = .ok (.iload_n 1, 1) := by decide +kernel
theorem dX5_init_6 : decode cX5_init 6 = .ok (.newarray .int, 2) := by decide +kernel
theorem dX5_init_8 : decode cX5_init 8 = .ok (.putfield 9, 3) := by decide +kernel
theorem dX5_init_11 : decode cX5_init 11 = .ok (.aload_n 0, 1) := by decide +kernel
theorem dX5_init_12 : decode cX5_init 12 = .ok (.iload_n 1, 1) := by decide +kernel
theorem dX5_init_13 : decode cX5_init 13 = .ok (.newarray .int, 2) := by decide +kernel
theorem dX5_init_15 : decode cX5_init 15 = .ok (.putfield 15, 3) := by decide +kernel
theorem dX5_init_18 : decode cX5_init 18 = .ok (.return_, 1) := by decide +kernel
theorem dX5_has_0 : decode cX5_has 0 = .ok (.iload_n 1, 1) := by decide +kernel
theorem dX5_has_1 : decode cX5_has 1 = .ok (.ifCond .lt 15, 3) := by decide +kernel
theorem dX5_has_4 : decode cX5_has 4 = .ok (.iload_n 1, 1) := by decide +kernel
theorem dX5_has_5 : decode cX5_has 5 = .ok (.aload_n 0, 1) := by decide +kernel
theorem dX5_has_6 : decode cX5_has 6 = .ok (.getfield 18, 3) := by decide +kernel
theorem dX5_has_9 : decode cX5_has 9 = .ok (.if_icmp .ge 7, 3) := by decide +kernel
theorem dX5_has_12 : decode cX5_has 12 = .ok (.iconst 1, 1) := by decide +kernel
theorem dX5_has_13 : decode cX5_has 13 = .ok (.goto 4, 3) := by decide +kernel
theorem dX5_has_16 : decode cX5_has 16 = .ok (.iconst 0, 1) := by decide +kernel
theorem dX5_has_17 : decode cX5_has 17 = .ok (.ireturn, 1) := by decide +kernel
theorem dX5_append_0 : decode cX5_append 0 = .ok (.aload_n 0, 1) := by decide +kernel
theorem dX5_append_1 : decode cX5_append 1 = .ok (.getfield 18, 3) := by decide +kernel
theorem dX5_append_4 : decode cX5_append 4 = .ok (.aload_n 0, 1) := by decide +kernel
theorem dX5_append_5 : decode cX5_append 5 = .ok (.getfield 9, 3) := by decide +kernel
theorem dX5_append_8 : decode cX5_append 8 = .ok (.arraylength, 1) := by decide +kernel
theorem dX5_append_9 : decode cX5_append 9 = .ok (.if_icmp .lt 5, 3) := by decide +kernel
theorem dX5_append_12 : decode cX5_append 12 = .ok (.iconst 0, 1) := by decide +kernel
theorem dX5_append_13 : decode cX5_append 13 = .ok (.ireturn, 1) := by decide +kernel
theorem dX5_append_14 : decode cX5_append 14 = .ok (.aload_n 0, 1) := by decide +kernel
theorem dX5_append_15 : decode cX5_append 15 = .ok (.getfield 9, 3) := by decide +kernel
theorem dX5_append_18 : decode cX5_append 18 = .ok (.aload_n 0, 1) := by decide +kernel
theorem dX5_append_19 : decode cX5_append 19 = .ok (.getfield 18, 3) := by decide +kernel
theorem dX5_append_22 : decode cX5_append 22 = .ok (.iload_n 1, 1) := by decide +kernel
theorem dX5_append_23 : decode cX5_append 23 = .ok (.iastore, 1) := by decide +kernel
theorem dX5_append_24 : decode cX5_append 24 = .ok (.aload_n 0, 1) := by decide +kernel
theorem dX5_append_25 : decode cX5_append 25 = .ok (.getfield 15, 3) := by decide +kernel
theorem dX5_append_28 : decode cX5_append 28 = .ok (.aload_n 0, 1) := by decide +kernel
theorem dX5_append_29 : decode cX5_append 29 = .ok (.getfield 18, 3) := by decide +kernel
theorem dX5_append_32 : decode cX5_append 32 = .ok (.iload_n 2, 1) := by decide +kernel
theorem dX5_append_33 : decode cX5_append 33 = .ok (.iastore, 1) := by decide +kernel
theorem dX5_append_34 : decode cX5_append 34 = .ok (.aload_n 0, 1) := by decide +kernel
theorem dX5_append_35 : decode cX5_append 35 = .ok (.dup, 1) := by decide +kernel
theorem dX5_append_36 : decode cX5_append 36 = .ok (.getfield 18, 3) := by decide +kernel
theorem dX5_append_39 : decode cX5_append 39 = .ok (.iconst 1, 1) := by decide +kernel
theorem dX5_append_40 : decode cX5_append 40 = .ok (.iadd, 1) := by decide +kernel
theorem dX5_append_41 : decode cX5_append 41 = .ok (.putfield 18, 3) := by decide +kernel
theorem dX5_append_44 : decode cX5_append 44 = .ok (.iconst 1, 1) := by decide +kernel
theorem dX5_append_45 : decode cX5_append 45 = .ok (.ireturn, 1) := by decide +kernel
theorem dX5_removeAt_0 : decode cX5_removeAt 0 = .ok (.aload_n 0, 1) := by decide +kernel
theorem dX5_removeAt_1 : decode cX5_removeAt 1 = .ok (.iload_n 1, 1) := by decide +kernel
theorem dX5_removeAt_2 : decode cX5_removeAt 2 = .ok (.invokevirtual 22, 3) := by decide +kernel
theorem dX5_removeAt_5 : decode cX5_removeAt 5 = .ok (.ifCond .ne 4, 3) := by decide +kernel
theorem dX5_removeAt_8 : decode cX5_removeAt 8 = .ok (.return_, 1) := by decide +kernel
theorem dX5_removeAt_9 : decode cX5_removeAt 9 = .ok (.aload_n 0, 1) := by decide +kernel
theorem dX5_removeAt_10 : decode cX5_removeAt 10 = .ok (.dup, 1) := by decide +kernel
theorem dX5_removeAt_11 : decode cX5_removeAt 11 = .ok (.getfield 18, 3) := by decide +kernel
theorem dX5_removeAt_14 : decode cX5_removeAt 14 = .ok (.iconst 1, 1) := by decide +kernel
theorem dX5_removeAt_15 : decode cX5_removeAt 15 = .ok (.isub, 1) := by decide +kernel
theorem dX5_removeAt_16 : decode cX5_removeAt 16 = .ok (.putfield 18, 3) := by decide +kernel
theorem dX5_removeAt_19 : decode cX5_removeAt 19 = .ok (.iload_n 1, 1) := by decide +kernel
theorem dX5_removeAt_20 : decode cX5_removeAt 20 = .ok (.istore_n 2, 1) := by decide +kernel
theorem dX5_removeAt_21 : decode cX5_removeAt 21 = .ok (.iload_n 2, 1) := by decide +kernel
theorem dX5_removeAt_22 : decode cX5_removeAt 22 = .ok (.aload_n 0, 1) := by decide +kernel
theorem dX5_removeAt_23 : decode cX5_removeAt 23 = .ok (.getfield 18, 3) := by decide +kernel
theorem dX5_removeAt_26 : decode cX5_removeAt 26 = .ok (.if_icmp .ge 37, 3) := by decide +kernel
theorem dX5_removeAt_29 : decode cX5_removeAt 29 = .ok (.aload_n 0, 1) := by decide +kernel
theorem dX5_removeAt_30 : decode cX5_removeAt 30 = .ok (.getfield 9, 3) := by decide +kernel
theorem dX5_removeAt_33 : decode cX5_removeAt 33 = .ok (.iload_n 2, 1) := by decide +kernel
theorem dX5_removeAt_34 : decode cX5_removeAt 34 = .ok (.aload_n 0, 1) := by decide +kernel
theorem dX5_removeAt_35 : decode cX5_removeAt 35 = .ok (.getfield 9, 3) := by decide +kernel
theorem dX5_removeAt_38 : decode cX5_removeAt 38 = .ok (.iload_n 2, 1) := by decide +kernel
theorem dX5_removeAt_39 : decode cX5_removeAt 39 = .ok (.iconst 1, 1) := by decide +kernel
theorem dX5_removeAt_40 : decode cX5_removeAt 40 = .ok (.iadd, 1) := by decide +kernel
theorem dX5_removeAt_41 : decode cX5_removeAt 41 = .ok (.iaload, 1) := by decide +kernel
theorem dX5_removeAt_42 : decode cX5_removeAt 42 = .ok (.iastore, 1) := by decide +kernel
theorem dX5_removeAt_43 : decode cX5_removeAt 43 = .ok (.aload_n 0, 1) := by decide +kernel
theorem dX5_removeAt_44 : decode cX5_removeAt 44 = .ok (.getfield 15, 3) := by decide +kernel
theorem dX5_removeAt_47 : decode cX5_removeAt 47 = .ok (.iload_n 2, 1) := by decide +kernel
theorem dX5_removeAt_48 : decode cX5_removeAt 48 = .ok (.aload_n 0, 1) := by decide +kernel
theorem dX5_removeAt_49 : decode cX5_removeAt 49 = .ok (.getfield 15, 3) := by decide +kernel
theorem dX5_removeAt_52 : decode cX5_removeAt 52 = .ok (.iload_n 2, 1) := by decide +kernel
theorem dX5_removeAt_53 : decode cX5_removeAt 53 = .ok (.iconst 1, 1) := by decide +kernel
theorem dX5_removeAt_54 : decode cX5_removeAt 54 = .ok (.iadd, 1) := by decide +kernel
theorem dX5_removeAt_55 : decode cX5_removeAt 55 = .ok (.iaload, 1) := by decide +kernel
theorem dX5_removeAt_56 : decode cX5_removeAt 56 = .ok (.iastore, 1) := by decide +kernel
theorem dX5_removeAt_57 : decode cX5_removeAt 57 = .ok (.iinc 2 1, 3) := by decide +kernel
theorem dX5_removeAt_60 : decode cX5_removeAt 60 = .ok (.goto (-39), 3) := by decide +kernel
theorem dX5_removeAt_63 : decode cX5_removeAt 63 = .ok (.return_, 1) := by decide +kernel
theorem dX5_find_0 : decode cX5_find 0 = .ok (.iconst 0, 1) := by decide +kernel
theorem dX5_find_1 : decode cX5_find 1 = .ok (.istore_n 3, 1) := by decide +kernel
theorem dX5_find_2 : decode cX5_find 2 = .ok (.iload_n 3, 1) := by decide +kernel
theorem dX5_find_3 : decode cX5_find 3 = .ok (.aload_n 0, 1) := by decide +kernel
theorem dX5_find_4 : decode cX5_find 4 = .ok (.getfield 18, 3) := by decide +kernel
theorem dX5_find_7 : decode cX5_find 7 = .ok (.if_icmp .ge 31, 3) := by decide +kernel
theorem dX5_find_10 : decode cX5_find 10 = .ok (.aload_n 0, 1) := by decide +kernel
theorem dX5_find_11 : decode cX5_find 11 = .ok (.getfield 9, 3) := by decide +kernel
theorem dX5_find_14 : decode cX5_find 14 = .ok (.iload_n 3, 1) := by decide +kernel
theorem dX5_find_15 : decode cX5_find 15 = .ok (.iaload, 1) := by decide +kernel
theorem dX5_find_16 : decode cX5_find 16 = .ok (.iload_n 1, 1) := by decide +kernel
theorem dX5_find_17 : decode cX5_find 17 = .ok (.if_icmp .ne 15, 3) := by decide +kernel
theorem dX5_find_20 : decode cX5_find 20 = .ok (.aload_n 0, 1) := by decide +kernel
theorem dX5_find_21 : decode cX5_find 21 = .ok (.getfield 15, 3) := by decide +kernel
theorem dX5_find_24 : decode cX5_find 24 = .ok (.iload_n 3, 1) := by decide +kernel
theorem dX5_find_25 : decode cX5_find 25 = .ok (.iaload, 1) := by decide +kernel
theorem dX5_find_26 : decode cX5_find 26 = .ok (.iload_n 2, 1) := by decide +kernel
theorem dX5_find_27 : decode cX5_find 27 = .ok (.if_icmp .ne 5, 3) := by decide +kernel
theorem dX5_find_30 : decode cX5_find 30 = .ok (.iload_n 3, 1) := by decide +kernel
theorem dX5_find_31 : decode cX5_find 31 = .ok (.ireturn, 1) := by decide +kernel
theorem dX5_find_32 : decode cX5_find 32 = .ok (.iinc 3 1, 3) := by decide +kernel
theorem dX5_find_35 : decode cX5_find 35 = .ok (.goto (-33), 3) := by decide +kernel
theorem dX5_find_38 : decode cX5_find 38 = .ok (.iconst (-1), 1) := by decide +kernel
theorem dX5_find_39 : decode cX5_find 39 = .ok (.ireturn, 1) := by decide +kernel
theorem dX5_countOf_0 : decode cX5_countOf 0 = .ok (.iconst 0, 1) := by decide +kernel
theorem dX5_countOf_1 : decode cX5_countOf 1 = .ok (.istore_n 3, 1) := by decide +kernel
theorem dX5_countOf_2 : decode cX5_countOf 2 = .ok (.iconst 0, 1) := by decide +kernel
theorem dX5_countOf_3 : decode cX5_countOf 3 = .ok (.istore 4, 2) := by decide +kernel
theorem dX5_countOf_5 : decode cX5_countOf 5 = .ok (.iload 4, 2) := by decide +kernel
theorem dX5_countOf_7 : decode cX5_countOf 7 = .ok (.aload_n 0, 1) := by decide +kernel
theorem dX5_countOf_8 : decode cX5_countOf 8 = .ok (.getfield 18, 3) := by decide +kernel
theorem dX5_countOf_11 : decode cX5_countOf 11 = .ok (.if_icmp .ge 34, 3) := by decide +kernel
theorem dX5_countOf_14 : decode cX5_countOf 14 = .ok (.aload_n 0, 1) := by decide +kernel
theorem dX5_countOf_15 : decode cX5_countOf 15 = .ok (.getfield 9, 3) := by decide +kernel
theorem dX5_countOf_18 : decode cX5_countOf 18 = .ok (.iload 4, 2) := by decide +kernel
theorem dX5_countOf_20 : decode cX5_countOf 20 = .ok (.iaload, 1) := by decide +kernel
theorem dX5_countOf_21 : decode cX5_countOf 21 = .ok (.iload_n 1, 1) := by decide +kernel
theorem dX5_countOf_22 : decode cX5_countOf 22 = .ok (.if_icmp .ne 17, 3) := by decide +kernel
theorem dX5_countOf_25 : decode cX5_countOf 25 = .ok (.aload_n 0, 1) := by decide +kernel
theorem dX5_countOf_26 : decode cX5_countOf 26 = .ok (.getfield 15, 3) := by decide +kernel
theorem dX5_countOf_29 : decode cX5_countOf 29 = .ok (.iload 4, 2) := by decide +kernel
theorem dX5_countOf_31 : decode cX5_countOf 31 = .ok (.iaload, 1) := by decide +kernel
theorem dX5_countOf_32 : decode cX5_countOf 32 = .ok (.iload_n 2, 1) := by decide +kernel
theorem dX5_countOf_33 : decode cX5_countOf 33 = .ok (.if_icmp .ne 6, 3) := by decide +kernel
theorem dX5_countOf_36 : decode cX5_countOf 36 = .ok (.iinc 3 1, 3) := by decide +kernel
theorem dX5_countOf_39 : decode cX5_countOf 39 = .ok (.iinc 4 1, 3) := by decide +kernel
theorem dX5_countOf_42 : decode cX5_countOf 42 = .ok (.goto (-37), 3) := by decide +kernel
theorem dX5_countOf_45 : decode cX5_countOf 45 = .ok (.iload_n 3, 1) := by decide +kernel
theorem dX5_countOf_46 : decode cX5_countOf 46 = .ok (.ireturn, 1) := by decide +kernel
theorem dX5_hasKind_0 : decode cX5_hasKind 0 = .ok (.iconst 0, 1) := by decide +kernel
theorem dX5_hasKind_1 : decode cX5_hasKind 1 = .ok (.istore_n 2, 1) := by decide +kernel
theorem dX5_hasKind_2 : decode cX5_hasKind 2 = .ok (.iload_n 2, 1) := by decide +kernel
theorem dX5_hasKind_3 : decode cX5_hasKind 3 = .ok (.aload_n 0, 1) := by decide +kernel
theorem dX5_hasKind_4 : decode cX5_hasKind 4 = .ok (.getfield 18, 3) := by decide +kernel
theorem dX5_hasKind_7 : decode cX5_hasKind 7 = .ok (.if_icmp .ge 21, 3) := by decide +kernel
theorem dX5_hasKind_10 : decode cX5_hasKind 10 = .ok (.aload_n 0, 1) := by decide +kernel
theorem dX5_hasKind_11 : decode cX5_hasKind 11 = .ok (.getfield 9, 3) := by decide +kernel
theorem dX5_hasKind_14 : decode cX5_hasKind 14 = .ok (.iload_n 2, 1) := by decide +kernel
theorem dX5_hasKind_15 : decode cX5_hasKind 15 = .ok (.iaload, 1) := by decide +kernel
theorem dX5_hasKind_16 : decode cX5_hasKind 16 = .ok (.iload_n 1, 1) := by decide +kernel
theorem dX5_hasKind_17 : decode cX5_hasKind 17 = .ok (.if_icmp .ne 5, 3) := by decide +kernel
theorem dX5_hasKind_20 : decode cX5_hasKind 20 = .ok (.iconst 1, 1) := by decide +kernel
theorem dX5_hasKind_21 : decode cX5_hasKind 21 = .ok (.ireturn, 1) := by decide +kernel
theorem dX5_hasKind_22 : decode cX5_hasKind 22 = .ok (.iinc 2 1, 3) := by decide +kernel
theorem dX5_hasKind_25 : decode cX5_hasKind 25 = .ok (.goto (-23), 3) := by decide +kernel
theorem dX5_hasKind_28 : decode cX5_hasKind 28 = .ok (.iconst 0, 1) := by decide +kernel
theorem dX5_hasKind_29 : decode cX5_hasKind 29 = .ok (.ireturn, 1) := by decide +kernel
theorem dX5_unitsHeld_0 : decode cX5_unitsHeld 0 = .ok (.iconst 0, 1) := by decide +kernel
theorem dX5_unitsHeld_1 : decode cX5_unitsHeld 1 = .ok (.istore_n 2, 1) := by decide +kernel
theorem dX5_unitsHeld_2 : decode cX5_unitsHeld 2 = .ok (.iconst 0, 1) := by decide +kernel
theorem dX5_unitsHeld_3 : decode cX5_unitsHeld 3 = .ok (.istore_n 3, 1) := by decide +kernel
theorem dX5_unitsHeld_4 : decode cX5_unitsHeld 4 = .ok (.iload_n 3, 1) := by decide +kernel
theorem dX5_unitsHeld_5 : decode cX5_unitsHeld 5 = .ok (.aload_n 0, 1) := by decide +kernel
theorem dX5_unitsHeld_6 : decode cX5_unitsHeld 6 = .ok (.getfield 18, 3) := by decide +kernel
theorem dX5_unitsHeld_9 : decode cX5_unitsHeld 9 = .ok (.if_icmp .ge 31, 3) := by decide +kernel
theorem dX5_unitsHeld_12 : decode cX5_unitsHeld 12 = .ok (.aload_n 0, 1) := by decide +kernel
theorem dX5_unitsHeld_13 : decode cX5_unitsHeld 13 = .ok (.getfield 9, 3) := by decide +kernel
theorem dX5_unitsHeld_16 : decode cX5_unitsHeld 16 = .ok (.iload_n 3, 1) := by decide +kernel
theorem dX5_unitsHeld_17 : decode cX5_unitsHeld 17 = .ok (.iaload, 1) := by decide +kernel
theorem dX5_unitsHeld_18 : decode cX5_unitsHeld 18 = .ok (.iload_n 1, 1) := by decide +kernel
theorem dX5_unitsHeld_19 : decode cX5_unitsHeld 19 = .ok (.if_icmp .ne 15, 3) := by decide +kernel
theorem dX5_unitsHeld_22 : decode cX5_unitsHeld 22 = .ok (.iload_n 2, 1) := by decide +kernel
theorem dX5_unitsHeld_23 : decode cX5_unitsHeld 23 = .ok (.aload_n 0, 1) := by decide +kernel
theorem dX5_unitsHeld_24 : decode cX5_unitsHeld 24 = .ok (.getfield 15, 3) := by decide +kernel
theorem dX5_unitsHeld_27 : decode cX5_unitsHeld 27 = .ok (.iload_n 3, 1) := by decide +kernel
theorem dX5_unitsHeld_28 : decode cX5_unitsHeld 28 = .ok (.iaload, 1) := by decide +kernel
theorem dX5_unitsHeld_29 : decode cX5_unitsHeld 29 = .ok (.invokestatic 26, 3) := by decide +kernel
theorem dX5_unitsHeld_32 : decode cX5_unitsHeld 32 = .ok (.iadd, 1) := by decide +kernel
theorem dX5_unitsHeld_33 : decode cX5_unitsHeld 33 = .ok (.istore_n 2, 1) := by decide +kernel
theorem dX5_unitsHeld_34 : decode cX5_unitsHeld 34 = .ok (.iinc 3 1, 3) := by decide +kernel
theorem dX5_unitsHeld_37 : decode cX5_unitsHeld 37 = .ok (.goto (-33), 3) := by decide +kernel
theorem dX5_unitsHeld_40 : decode cX5_unitsHeld 40 = .ok (.iload_n 2, 1) := by decide +kernel
theorem dX5_unitsHeld_41 : decode cX5_unitsHeld 41 = .ok (.ireturn, 1) := by decide +kernel
theorem dX5_unitAt_0 : decode cX5_unitAt 0 = .ok (.aload_n 0, 1) := by decide +kernel
theorem dX5_unitAt_1 : decode cX5_unitAt 1 = .ok (.iload_n 1, 1) := by decide +kernel
theorem dX5_unitAt_2 : decode cX5_unitAt 2 = .ok (.invokevirtual 22, 3) := by decide +kernel
theorem dX5_unitAt_5 : decode cX5_unitAt 5 = .ok (.ifCond .eq 22, 3) := by decide +kernel
theorem dX5_unitAt_8 : decode cX5_unitAt 8 = .ok (.bipush 10, 2) := by decide +kernel
theorem dX5_unitAt_10 : decode cX5_unitAt 10 = .ok (.aload_n 0, 1) := by decide +kernel
theorem dX5_unitAt_11 : decode cX5_unitAt 11 = .ok (.getfield 9, 3) := by decide +kernel
theorem dX5_unitAt_14 : decode cX5_unitAt 14 = .ok (.iload_n 1, 1) := by decide +kernel
theorem dX5_unitAt_15 : decode cX5_unitAt 15 = .ok (.iaload, 1) := by decide +kernel
theorem dX5_unitAt_16 : decode cX5_unitAt 16 = .ok (.imul, 1) := by decide +kernel
theorem dX5_unitAt_17 : decode cX5_unitAt 17 = .ok (.aload_n 0, 1) := by decide +kernel
theorem dX5_unitAt_18 : decode cX5_unitAt 18 = .ok (.getfield 15, 3) := by decide +kernel
theorem dX5_unitAt_21 : decode cX5_unitAt 21 = .ok (.iload_n 1, 1) := by decide +kernel
theorem dX5_unitAt_22 : decode cX5_unitAt 22 = .ok (.iaload, 1) := by decide +kernel
theorem dX5_unitAt_23 : decode cX5_unitAt 23 = .ok (.iadd, 1) := by decide +kernel
theorem dX5_unitAt_24 : decode cX5_unitAt 24 = .ok (.goto 4, 3) := by decide +kernel
theorem dX5_unitAt_27 : decode cX5_unitAt 27 = .ok (.iconst (-1), 1) := by decide +kernel
theorem dX5_unitAt_28 : decode cX5_unitAt 28 = .ok (.ireturn, 1) := by decide +kernel
theorem dX5_healthAt_0 : decode cX5_healthAt 0 = .ok (.aload_n 0, 1) := by decide +kernel
theorem dX5_healthAt_1 : decode cX5_healthAt 1 = .ok (.iload_n 1, 1) := by decide +kernel
theorem dX5_healthAt_2 : decode cX5_healthAt 2 = .ok (.invokevirtual 22, 3) := by decide +kernel
theorem dX5_healthAt_5 : decode cX5_healthAt 5 = .ok (.ifCond .eq 25, 3) := by decide +kernel
theorem dX5_healthAt_8 : decode cX5_healthAt 8 = .ok (.bipush 6, 2) := by decide +kernel
theorem dX5_healthAt_10 : decode cX5_healthAt 10 = .ok (.aload_n 0, 1) := by decide +kernel
theorem dX5_healthAt_11 : decode cX5_healthAt 11 = .ok (.getfield 9, 3) := by decide +kernel
theorem dX5_healthAt_14 : decode cX5_healthAt 14 = .ok (.iload_n 1, 1) := by decide +kernel
theorem dX5_healthAt_15 : decode cX5_healthAt 15 = .ok (.iaload, 1) := by decide +kernel
theorem dX5_healthAt_16 : decode cX5_healthAt 16 = .ok (.invokestatic 30, 3) := by decide +kernel
theorem dX5_healthAt_19 : decode cX5_healthAt 19 = .ok (.imul, 1) := by decide +kernel
theorem dX5_healthAt_20 : decode cX5_healthAt 20 = .ok (.aload_n 0, 1) := by decide +kernel
theorem dX5_healthAt_21 : decode cX5_healthAt 21 = .ok (.getfield 15, 3) := by decide +kernel
theorem dX5_healthAt_24 : decode cX5_healthAt 24 = .ok (.iload_n 1, 1) := by decide +kernel
theorem dX5_healthAt_25 : decode cX5_healthAt 25 = .ok (.iaload, 1) := by decide +kernel
theorem dX5_healthAt_26 : decode cX5_healthAt 26 = .ok (.imul, 1) := by decide +kernel
theorem dX5_healthAt_27 : decode cX5_healthAt 27 = .ok (.goto 4, 3) := by decide +kernel
theorem dX5_healthAt_30 : decode cX5_healthAt 30 = .ok (.iconst 0, 1) := by decide +kernel
theorem dX5_healthAt_31 : decode cX5_healthAt 31 = .ok (.ireturn, 1) := by decide +kernel
theorem dX5_strengthAt_0 : decode cX5_strengthAt 0 = .ok (.aload_n 0, 1) := by decide +kernel
theorem dX5_strengthAt_1 : decode cX5_strengthAt 1 = .ok (.iload_n 1, 1) := by decide +kernel
theorem dX5_strengthAt_2 : decode cX5_strengthAt 2 = .ok (.invokevirtual 22, 3) := by decide +kernel
theorem dX5_strengthAt_5 : decode cX5_strengthAt 5 = .ok (.ifCond .ne 5, 3) := by decide +kernel
theorem dX5_strengthAt_8 : decode cX5_strengthAt 8 = .ok (.iconst 0, 1) := by decide +kernel
theorem dX5_strengthAt_9 : decode cX5_strengthAt 9 = .ok (.ireturn, 1) := by decide +kernel
theorem dX5_strengthAt_10 : decode cX5_strengthAt 10 = .ok (.aload_n 0, 1) := by decide +kernel
theorem dX5_strengthAt_11 : decode cX5_strengthAt 11 = .ok (.getfield 9, 3) := by decide +kernel
theorem dX5_strengthAt_14 : decode cX5_strengthAt 14 = .ok (.iload_n 1, 1) := by decide +kernel
theorem dX5_strengthAt_15 : decode cX5_strengthAt 15 = .ok (.iaload, 1) := by decide +kernel
theorem dX5_strengthAt_16 : decode cX5_strengthAt 16 = .ok (.istore_n 2, 1) := by decide +kernel
theorem dX5_strengthAt_17 : decode cX5_strengthAt 17 = .ok (.iconst 2, 1) := by decide +kernel
theorem dX5_strengthAt_18 : decode cX5_strengthAt 18 = .ok (.iload_n 2, 1) := by decide +kernel
theorem dX5_strengthAt_19 : decode cX5_strengthAt 19 = .ok (.invokestatic 30, 3) := by decide +kernel
theorem dX5_strengthAt_22 : decode cX5_strengthAt 22 = .ok (.imul, 1) := by decide +kernel
theorem dX5_strengthAt_23 : decode cX5_strengthAt 23 = .ok (.aload_n 0, 1) := by decide +kernel
theorem dX5_strengthAt_24 : decode cX5_strengthAt 24 = .ok (.getfield 15, 3) := by decide +kernel
theorem dX5_strengthAt_27 : decode cX5_strengthAt 27 = .ok (.iload_n 1, 1) := by decide +kernel
theorem dX5_strengthAt_28 : decode cX5_strengthAt 28 = .ok (.iaload, 1) := by decide +kernel
theorem dX5_strengthAt_29 : decode cX5_strengthAt 29 = .ok (.imul, 1) := by decide +kernel
theorem dX5_strengthAt_30 : decode cX5_strengthAt 30 = .ok (.istore_n 3, 1) := by decide +kernel
theorem dX5_strengthAt_31 : decode cX5_strengthAt 31 = .ok (.iload_n 2, 1) := by decide +kernel
theorem dX5_strengthAt_32 : decode cX5_strengthAt 32 = .ok (.iconst 3, 1) := by decide +kernel
theorem dX5_strengthAt_33 : decode cX5_strengthAt 33 = .ok (.irem, 1) := by decide +kernel
theorem dX5_strengthAt_34 : decode cX5_strengthAt 34 = .ok (.istore 4, 2) := by decide +kernel
theorem dX5_strengthAt_36 : decode cX5_strengthAt 36 = .ok (.iload 4, 2) := by decide +kernel
theorem dX5_strengthAt_38 : decode cX5_strengthAt 38 = .ok (.bipush 9, 2) := by decide +kernel
theorem dX5_strengthAt_40 : decode cX5_strengthAt 40 = .ok (.if_icmp .ge 27, 3) := by decide +kernel
theorem dX5_strengthAt_43 : decode cX5_strengthAt 43 = .ok (.iload 4, 2) := by decide +kernel
theorem dX5_strengthAt_45 : decode cX5_strengthAt 45 = .ok (.iload_n 2, 1) := by decide +kernel
theorem dX5_strengthAt_46 : decode cX5_strengthAt 46 = .ok (.if_icmp .eq 15, 3) := by decide +kernel
theorem dX5_strengthAt_49 : decode cX5_strengthAt 49 = .ok (.aload_n 0, 1) := by decide +kernel
theorem dX5_strengthAt_50 : decode cX5_strengthAt 50 = .ok (.iload 4, 2) := by decide +kernel
theorem dX5_strengthAt_52 : decode cX5_strengthAt 52 = .ok (.invokevirtual 33, 3) := by decide +kernel
theorem dX5_strengthAt_55 : decode cX5_strengthAt 55 = .ok (.ifCond .eq 6, 3) := by decide +kernel
theorem dX5_strengthAt_58 : decode cX5_strengthAt 58 = .ok (.iinc 3 1, 3) := by decide +kernel
theorem dX5_strengthAt_61 : decode cX5_strengthAt 61 = .ok (.iinc 4 3, 3) := by decide +kernel
theorem dX5_strengthAt_64 : decode cX5_strengthAt 64 = .ok (.goto (-28), 3) := by decide +kernel
theorem dX5_strengthAt_67 : decode cX5_strengthAt 67 = .ok (.iload_n 3, 1) := by decide +kernel
theorem dX5_strengthAt_68 : decode cX5_strengthAt 68 = .ok (.ireturn, 1) := by decide +kernel
theorem dX6_init_0 : decode cX6_init 0 = .ok (.aload_n 0, 1) := by decide +kernel
theorem dX6_init_1 : decode cX6_init 1 = .ok (.invokespecial 1, 3) := by decide +kernel
theorem dX6_init_4 : decode cX6_init 4 = .ok (.aload_n 0, 1) := by decide +kernel
theorem dX6_init_5 : decode cX6_init 5 = .ok (.iconst 4, 1) := by decide +kernel
theorem dX6_init_6 : decode cX6_init 6 = .ok (.anewarray 9, 3) := by decide +kernel
theorem dX6_init_9 : decode cX6_init 9 = .ok (.putfield 11, 3) := by decide +kernel
theorem dX6_init_12 : decode cX6_init 12 = .ok (.aload_n 0, 1) := by decide +kernel
theorem dX6_init_13 : decode cX6_init 13 = .ok (.new 15, 3) := by decide +kernel
theorem dX6_init_16 : decode cX6_init 16 = .ok (.dup, 1) := by decide +kernel
theorem dX6_init_17 : decode cX6_init 17 = .ok (.invokespecial 17, 3) := by decide +kernel
theorem dX6_init_20 : decode cX6_init 20 = .ok (.putfield 18, 3) := by decide +kernel
theorem dX6_init_23 : decode cX6_init 23 = .ok (.aload_n 0, 1) := by decide +kernel
theorem dX6_init_24 : decode cX6_init 24 = .ok (.new 22, 3) := by decide +kernel
theorem dX6_init_27 : decode cX6_init 27 = .ok (.dup, 1) := by decide +kernel
theorem dX6_init_28 : decode cX6_init 28 = .ok (.invokespecial 24, 3) := by decide +kernel
theorem dX6_init_31 : decode cX6_init 31 = .ok (.putfield 25, 3) := by decide +kernel
theorem dX6_init_34 : decode cX6_init 34 = .ok (.aload_n 0, 1) := by decide +kernel
theorem dX6_init_35 : decode cX6_init 35 = .ok (.new 29, 3) := by decide +kernel
theorem dX6_init_38 : decode cX6_init 38 = .ok (.dup, 1) := by decide +kernel
theorem dX6_init_39 : decode cX6_init 39 = .ok (.invokespecial 31, 3) := by decide +kernel
theorem dX6_init_42 : decode cX6_init 42 = .ok (.putfield 32, 3) := by decide +kernel
theorem dX6_init_45 : decode cX6_init 45 = .ok (.iconst 0, 1) := by decide +kernel
theorem dX6_init_46 : decode cX6_init 46 = .ok (.istore_n 1, 1) := by decide +kernel
theorem dX6_init_47 : decode cX6_init 47 = .ok (.iload_n 1, 1) := by decide +kernel
theorem dX6_init_48 : decode cX6_init 48 = .ok (.iconst 4, 1) := by decide +kernel
theorem dX6_init_49 : decode cX6_init 49 = .ok (.if_icmp .ge 22, 3) := by decide +kernel
theorem dX6_init_52 : decode cX6_init 52 = .ok (.aload_n 0, 1) := by decide +kernel
theorem dX6_init_53 : decode cX6_init 53 = .ok (.getfield 11, 3) := by decide +kernel
theorem dX6_init_56 : decode cX6_init 56 = .ok (.iload_n 1, 1) := by decide +kernel
theorem dX6_init_57 : decode cX6_init 57 = .ok (.new 9, 3) := by decide +kernel
theorem dX6_init_60 : decode cX6_init 60 = .ok (.dup, 1) := by decide +kernel
theorem dX6_init_61 : decode cX6_init 61 = .ok (.invokespecial 36, 3) := by decide +kernel
theorem dX6_init_64 : decode cX6_init 64 = .ok (.aastore, 1) := by decide +kernel
theorem dX6_init_65 : decode cX6_init 65 = .ok (.iinc 1 1, 3) := by decide +kernel
theorem dX6_init_68 : decode cX6_init 68 = .ok (.goto (-21), 3) := by decide +kernel
theorem dX6_init_71 : decode cX6_init 71 = .ok (.return_, 1) := by decide +kernel
theorem dX6_tell_0 : decode cX6_tell 0 = .ok (.iload_n 1, 1) := by decide +kernel
theorem dX6_tell_1 : decode cX6_tell 1 = .ok (.ifCond .lt 10, 3) := by decide +kernel
theorem dX6_tell_4 : decode cX6_tell 4 = .ok (.iload_n 1, 1) := by decide +kernel
theorem dX6_tell_5 : decode cX6_tell 5 = .ok (.sipush 1000, 3) := by decide +kernel
theorem dX6_tell_8 : decode cX6_tell 8 = .ok (.if_icmp .le 13, 3) := by decide +kernel
theorem dX6_tell_11 : decode cX6_tell 11 = .ok (.new 37, 3) := by decide +kernel
theorem dX6_tell_14 : decode cX6_tell 14 = .ok (.dup, 1) := by decide +kernel
theorem dX6_tell_15 : decode cX6_tell 15 = .ok (.ldc 39, 2) := by decide +kernel
theorem dX6_tell_17 : decode cX6_tell 17 = .ok (.invokespecial 41, 3) := by decide +kernel
theorem dX6_tell_20 : decode cX6_tell 20 = .ok (.athrow, 1) := by decide +kernel
theorem dX6_tell_21 : decode cX6_tell 21 = .ok (.aload_n 0, 1) := by decide +kernel
theorem dX6_tell_22 : decode cX6_tell 22 = .ok (.getfield 25, 3) := by decide +kernel
theorem dX6_tell_25 : decode cX6_tell 25 = .ok (.iload_n 1, 1) := by decide +kernel
theorem dX6_tell_26 : decode cX6_tell 26 = .ok (.invokevirtual 44, 3) := by decide +kernel
theorem dX6_tell_29 : decode cX6_tell 29 = .ok (.ifCond .ne 13, 3) := by decide +kernel
theorem dX6_tell_32 : decode cX6_tell 32 = .ok (.new 48, 3) := by decide +kernel
theorem dX6_tell_35 : decode cX6_tell 35 = .ok (.dup, 1) := by decide +kernel
theorem dX6_tell_36 : decode cX6_tell 36 = .ok (.ldc 50, 2) := by decide +kernel
theorem dX6_tell_38 : decode cX6_tell 38 = .ok (.invokespecial 52, 3) := by decide +kernel
theorem dX6_tell_41 : decode cX6_tell 41 = .ok (.athrow, 1) := by decide +kernel
theorem dX6_tell_42 : decode cX6_tell 42 = .ok (.aload_n 0, 1) := by decide +kernel
theorem dX6_tell_43 : decode cX6_tell 43 = .ok (.getfield 25, 3) := by decide +kernel
theorem dX6_tell_46 : decode cX6_tell 46 = .ok (.getfield 53, 3) := by decide +kernel
theorem dX6_tell_49 : decode cX6_tell 49 = .ok (.ireturn, 1) := by decide +kernel
theorem dX6_roll_0 : decode cX6_roll 0 = .ok (.aload_n 0, 1) := by decide +kernel
theorem dX6_roll_1 : decode cX6_roll 1 = .ok (.iload_n 1, 1) := by decide +kernel
theorem dX6_roll_2 : decode cX6_roll 2 = .ok (.invokevirtual 57, 3) := by decide +kernel
theorem dX6_roll_5 : decode cX6_roll 5 = .ok (.astore_n 2, 1) := by decide +kernel
theorem dX6_roll_6 : decode cX6_roll 6 = .ok (.aload_n 2, 1) := by decide +kernel
theorem dX6_roll_7 : decode cX6_roll 7 = .ok (.getfield 61, 3) := by decide +kernel
theorem dX6_roll_10 : decode cX6_roll 10 = .ok (.iconst 1, 1) := by decide +kernel
theorem dX6_roll_11 : decode cX6_roll 11 = .ok (.if_icmp .ge 13, 3) := by decide +kernel
theorem dX6_roll_14 : decode cX6_roll 14 = .ok (.new 48, 3) := by decide +kernel
theorem dX6_roll_17 : decode cX6_roll 17 = .ok (.dup, 1) := by decide +kernel
theorem dX6_roll_18 : decode cX6_roll 18 = .ok (.ldc 64, 2) := by decide +kernel
theorem dX6_roll_20 : decode cX6_roll 20 = .ok (.invokespecial 52, 3) := by decide +kernel
theorem dX6_roll_23 : decode cX6_roll 23 = .ok (.athrow, 1) := by decide +kernel
theorem dX6_roll_24 : decode cX6_roll 24 = .ok (.aload_n 2, 1) := by decide +kernel
theorem dX6_roll_25 : decode cX6_roll 25 = .ok (.dup, 1) := by decide +kernel
theorem dX6_roll_26 : decode cX6_roll 26 = .ok (.getfield 61, 3) := by decide +kernel
theorem dX6_roll_29 : decode cX6_roll 29 = .ok (.iconst 1, 1) := by decide +kernel
theorem dX6_roll_30 : decode cX6_roll 30 = .ok (.isub, 1) := by decide +kernel
theorem dX6_roll_31 : decode cX6_roll 31 = .ok (.putfield 61, 3) := by decide +kernel
theorem dX6_roll_34 : decode cX6_roll 34 = .ok (.aload_n 0, 1) := by decide +kernel
theorem dX6_roll_35 : decode cX6_roll 35 = .ok (.aload_n 2, 1) := by decide +kernel
theorem dX6_roll_36 : decode cX6_roll 36 = .ok (.invokevirtual 66, 3) := by decide +kernel
theorem dX6_roll_39 : decode cX6_roll 39 = .ok (.aload_n 2, 1) := by decide +kernel
theorem dX6_roll_40 : decode cX6_roll 40 = .ok (.iconst 0, 1) := by decide +kernel
theorem dX6_roll_41 : decode cX6_roll 41 = .ok (.putfield 70, 3) := by decide +kernel
theorem dX6_roll_44 : decode cX6_roll 44 = .ok (.aload_n 2, 1) := by decide +kernel
theorem dX6_roll_45 : decode cX6_roll 45 = .ok (.getfield 61, 3) := by decide +kernel
theorem dX6_roll_48 : decode cX6_roll 48 = .ok (.ireturn, 1) := by decide +kernel
theorem dX6_toggleLock_0 : decode cX6_toggleLock 0 = .ok (.aload_n 0, 1) := by decide +kernel
theorem dX6_toggleLock_1 : decode cX6_toggleLock 1 = .ok (.iload_n 1, 1) := by decide +kernel
theorem dX6_toggleLock_2 : decode cX6_toggleLock 2 = .ok (.invokevirtual 57, 3) := by decide +kernel
theorem dX6_toggleLock_5 : decode cX6_toggleLock 5 = .ok (.astore_n 2, 1) := by decide +kernel
theorem dX6_toggleLock_6 : decode cX6_toggleLock 6 = .ok (.aload_n 2, 1) := by decide +kernel
theorem dX6_toggleLock_7 : decode cX6_toggleLock 7 = .ok (.aload_n 2, 1) := by decide +kernel
theorem dX6_toggleLock_8 : decode cX6_toggleLock 8 = .ok (.getfield 70, 3) := by decide +kernel
theorem dX6_toggleLock_11 : decode cX6_toggleLock 11 = .ok (.ifCond .ne 7, 3) := by decide +kernel
theorem dX6_toggleLock_14 : decode cX6_toggleLock 14 = .ok (.iconst 1, 1) := by decide +kernel
theorem dX6_toggleLock_15 : decode cX6_toggleLock 15 = .ok (.goto 4, 3) := by decide +kernel
theorem dX6_toggleLock_18 : decode cX6_toggleLock 18 = .ok (.iconst 0, 1) := by decide +kernel
theorem dX6_toggleLock_19 : decode cX6_toggleLock 19 = .ok (.putfield 70, 3) := by decide +kernel
theorem dX6_toggleLock_22 : decode cX6_toggleLock 22 = .ok (.aload_n 2, 1) := by decide +kernel
theorem dX6_toggleLock_23 : decode cX6_toggleLock 23 = .ok (.getfield 70, 3) := by decide +kernel
theorem dX6_toggleLock_26 : decode cX6_toggleLock 26 = .ok (.ireturn, 1) := by decide +kernel
theorem dX6_buyLevel_0 : decode cX6_buyLevel 0 = .ok (.aload_n 0, 1) := by decide +kernel
theorem dX6_buyLevel_1 : decode cX6_buyLevel 1 = .ok (.iload_n 1, 1) := by decide +kernel
theorem dX6_buyLevel_2 : decode cX6_buyLevel 2 = .ok (.invokevirtual 57, 3) := by decide +kernel
theorem dX6_buyLevel_5 : decode cX6_buyLevel 5 = .ok (.astore_n 2, 1) := by decide +kernel
theorem dX6_buyLevel_6 : decode cX6_buyLevel 6 = .ok (.aload_n 2, 1) := by decide +kernel
theorem dX6_buyLevel_7 : decode cX6_buyLevel 7 = .ok (.getfield 61, 3) := by decide +kernel
theorem dX6_buyLevel_10 : decode cX6_buyLevel 10 = .ok (.iconst 4, 1) := by decide +kernel
theorem dX6_buyLevel_11 : decode cX6_buyLevel 11 = .ok (.if_icmp .ge 13, 3) := by decide +kernel
theorem dX6_buyLevel_14 : decode cX6_buyLevel 14 = .ok (.new 48, 3) := by decide +kernel
theorem dX6_buyLevel_17 : decode cX6_buyLevel 17 = .ok (.dup, 1) := by decide +kernel
theorem dX6_buyLevel_18 : decode cX6_buyLevel 18 = .ok (.ldc 74, 2) := by decide +kernel
theorem dX6_buyLevel_20 : decode cX6_buyLevel 20 = .ok (.invokespecial 52, 3) := by decide +kernel
theorem dX6_buyLevel_23 : decode cX6_buyLevel 23 = .ok (.athrow, 1) := by decide +kernel
theorem dX6_buyLevel_24 : decode cX6_buyLevel 24 = .ok (.aload_n 2, 1) := by decide +kernel
theorem dX6_buyLevel_25 : decode cX6_buyLevel 25 = .ok (.getfield 76, 3) := by decide +kernel
theorem dX6_buyLevel_28 : decode cX6_buyLevel 28 = .ok (.iconst 5, 1) := by decide +kernel
theorem dX6_buyLevel_29 : decode cX6_buyLevel 29 = .ok (.if_icmp .lt 13, 3) := by decide +kernel
theorem dX6_buyLevel_32 : decode cX6_buyLevel 32 = .ok (.new 48, 3) := by decide +kernel
theorem dX6_buyLevel_35 : decode cX6_buyLevel 35 = .ok (.dup, 1) := by decide +kernel
theorem dX6_buyLevel_36 : decode cX6_buyLevel 36 = .ok (.ldc 79, 2) := by decide +kernel
theorem dX6_buyLevel_38 : decode cX6_buyLevel 38 = .ok (.invokespecial 52, 3) := by decide +kernel
theorem dX6_buyLevel_41 : decode cX6_buyLevel 41 = .ok (.athrow, 1) := by decide +kernel
theorem dX6_buyLevel_42 : decode cX6_buyLevel 42 = .ok (.aload_n 2, 1) := by decide +kernel
theorem dX6_buyLevel_43 : decode cX6_buyLevel 43 = .ok (.dup, 1) := by decide +kernel
theorem dX6_buyLevel_44 : decode cX6_buyLevel 44 = .ok (.getfield 61, 3) := by decide +kernel
theorem dX6_buyLevel_47 : decode cX6_buyLevel 47 = .ok (.iconst 4, 1) := by decide +kernel
theorem dX6_buyLevel_48 : decode cX6_buyLevel 48 = .ok (.isub, 1) := by decide +kernel
theorem dX6_buyLevel_49 : decode cX6_buyLevel 49 = .ok (.putfield 61, 3) := by decide +kernel
theorem dX6_buyLevel_52 : decode cX6_buyLevel 52 = .ok (.aload_n 2, 1) := by decide +kernel
theorem dX6_buyLevel_53 : decode cX6_buyLevel 53 = .ok (.dup, 1) := by decide +kernel
theorem dX6_buyLevel_54 : decode cX6_buyLevel 54 = .ok (.getfield 76, 3) := by decide +kernel
theorem dX6_buyLevel_57 : decode cX6_buyLevel 57 = .ok (.iconst 1, 1) := by decide +kernel
theorem dX6_buyLevel_58 : decode cX6_buyLevel 58 = .ok (.iadd, 1) := by decide +kernel
theorem dX6_buyLevel_59 : decode cX6_buyLevel 59 = .ok (.putfield 76, 3) := by decide +kernel
theorem dX6_buyLevel_62 : decode cX6_buyLevel 62 = .ok (.aload_n 2, 1) := by decide +kernel
theorem dX6_buyLevel_63 : decode cX6_buyLevel 63 = .ok (.getfield 76, 3) := by decide +kernel
theorem dX6_buyLevel_66 : decode cX6_buyLevel 66 = .ok (.ireturn, 1) := by decide +kernel
theorem dX6_buy_0 : decode cX6_buy 0 = .ok (.aload_n 0, 1) := by decide +kernel
theorem dX6_buy_1 : decode cX6_buy 1 = .ok (.iload_n 1, 1) := by decide +kernel
theorem dX6_buy_2 : decode cX6_buy 2 = .ok (.invokevirtual 57, 3) := by decide +kernel
theorem dX6_buy_5 : decode cX6_buy 5 = .ok (.astore_n 3, 1) := by decide +kernel
theorem dX6_buy_6 : decode cX6_buy 6 = .ok (.iload_n 2, 1) := by decide +kernel
theorem dX6_buy_7 : decode cX6_buy 7 = .ok (.invokestatic 81, 3) := by decide +kernel
theorem dX6_buy_10 : decode cX6_buy 10 = .ok (.aload_n 3, 1) := by decide +kernel
theorem dX6_buy_11 : decode cX6_buy 11 = .ok (.getfield 85, 3) := by decide +kernel
theorem dX6_buy_14 : decode cX6_buy 14 = .ok (.iload_n 2, 1) := by decide +kernel
theorem dX6_buy_15 : decode cX6_buy 15 = .ok (.iaload, 1) := by decide +kernel
theorem dX6_buy_16 : decode cX6_buy 16 = .ok (.istore 4, 2) := by decide +kernel
theorem dX6_buy_18 : decode cX6_buy 18 = .ok (.iload 4, 2) := by decide +kernel
theorem dX6_buy_20 : decode cX6_buy 20 = .ok (.iconst (-1), 1) := by decide +kernel
theorem dX6_buy_21 : decode cX6_buy 21 = .ok (.if_icmp .ne 13, 3) := by decide +kernel
theorem dX6_buy_24 : decode cX6_buy 24 = .ok (.new 89, 3) := by decide +kernel
theorem dX6_buy_27 : decode cX6_buy 27 = .ok (.dup, 1) := by decide +kernel
theorem dX6_buy_28 : decode cX6_buy 28 = .ok (.ldc 91, 2) := by decide +kernel
theorem dX6_buy_30 : decode cX6_buy 30 = .ok (.invokespecial 93, 3) := by decide +kernel
theorem dX6_buy_33 : decode cX6_buy 33 = .ok (.athrow, 1) := by decide +kernel
theorem dX6_buy_34 : decode cX6_buy 34 = .ok (.aload_n 3, 1) := by decide +kernel
theorem dX6_buy_35 : decode cX6_buy 35 = .ok (.getfield 61, 3) := by decide +kernel
theorem dX6_buy_38 : decode cX6_buy 38 = .ok (.iload 4, 2) := by decide +kernel
theorem dX6_buy_40 : decode cX6_buy 40 = .ok (.invokestatic 94, 3) := by decide +kernel
theorem dX6_buy_43 : decode cX6_buy 43 = .ok (.if_icmp .ge 13, 3) := by decide +kernel
theorem dX6_buy_46 : decode cX6_buy 46 = .ok (.new 48, 3) := by decide +kernel
theorem dX6_buy_49 : decode cX6_buy 49 = .ok (.dup, 1) := by decide +kernel
theorem dX6_buy_50 : decode cX6_buy 50 = .ok (.ldc 74, 2) := by decide +kernel
theorem dX6_buy_52 : decode cX6_buy 52 = .ok (.invokespecial 52, 3) := by decide +kernel
theorem dX6_buy_55 : decode cX6_buy 55 = .ok (.athrow, 1) := by decide +kernel
theorem dX6_buy_56 : decode cX6_buy 56 = .ok (.aload_n 3, 1) := by decide +kernel
theorem dX6_buy_57 : decode cX6_buy 57 = .ok (.getfield 98, 3) := by decide +kernel
theorem dX6_buy_60 : decode cX6_buy 60 = .ok (.iload 4, 2) := by decide +kernel
theorem dX6_buy_62 : decode cX6_buy 62 = .ok (.iconst 1, 1) := by decide +kernel
theorem dX6_buy_63 : decode cX6_buy 63 = .ok (.invokevirtual 102, 3) := by decide +kernel
theorem dX6_buy_66 : decode cX6_buy 66 = .ok (.ifCond .ne 13, 3) := by decide +kernel
theorem dX6_buy_69 : decode cX6_buy 69 = .ok (.new 48, 3) := by decide +kernel
theorem dX6_buy_72 : decode cX6_buy 72 = .ok (.dup, 1) := by decide +kernel
theorem dX6_buy_73 : decode cX6_buy 73 = .ok (.ldc 107, 2) := by decide +kernel
theorem dX6_buy_75 : decode cX6_buy 75 = .ok (.invokespecial 52, 3) := by decide +kernel
theorem dX6_buy_78 : decode cX6_buy 78 = .ok (.athrow, 1) := by decide +kernel
theorem dX6_buy_79 : decode cX6_buy 79 = .ok (.aload_n 3, 1) := by decide +kernel
theorem dX6_buy_80 : decode cX6_buy 80 = .ok (.getfield 85, 3) := by decide +kernel
theorem dX6_buy_83 : decode cX6_buy 83 = .ok (.iload_n 2, 1) := by decide +kernel
theorem dX6_buy_84 : decode cX6_buy 84 = .ok (.iconst (-1), 1) := by decide +kernel
theorem dX6_buy_85 : decode cX6_buy 85 = .ok (.iastore, 1) := by decide +kernel
theorem dX6_buy_86 : decode cX6_buy 86 = .ok (.aload_n 3, 1) := by decide +kernel
theorem dX6_buy_87 : decode cX6_buy 87 = .ok (.dup, 1) := by decide +kernel
theorem dX6_buy_88 : decode cX6_buy 88 = .ok (.getfield 61, 3) := by decide +kernel
theorem dX6_buy_91 : decode cX6_buy 91 = .ok (.iload 4, 2) := by decide +kernel
theorem dX6_buy_93 : decode cX6_buy 93 = .ok (.invokestatic 94, 3) := by decide +kernel
theorem dX6_buy_96 : decode cX6_buy 96 = .ok (.isub, 1) := by decide +kernel
theorem dX6_buy_97 : decode cX6_buy 97 = .ok (.putfield 61, 3) := by decide +kernel
theorem dX6_buy_100 : decode cX6_buy 100 = .ok (.aload_n 3, 1) := by decide +kernel
theorem dX6_buy_101 : decode cX6_buy 101 = .ok (.invokevirtual 109, 3) := by decide +kernel
theorem dX6_buy_104 : decode cX6_buy 104 = .ok (.aload_n 3, 1) := by decide +kernel
theorem dX6_buy_105 : decode cX6_buy 105 = .ok (.getfield 61, 3) := by decide +kernel
theorem dX6_buy_108 : decode cX6_buy 108 = .ok (.ireturn, 1) := by decide +kernel
theorem dX6_sell_0 : decode cX6_sell 0 = .ok (.aload_n 0, 1) := by decide +kernel
theorem dX6_sell_1 : decode cX6_sell 1 = .ok (.iload_n 1, 1) := by decide +kernel
theorem dX6_sell_2 : decode cX6_sell 2 = .ok (.invokevirtual 57, 3) := by decide +kernel
theorem dX6_sell_5 : decode cX6_sell 5 = .ok (.astore_n 3, 1) := by decide +kernel
theorem dX6_sell_6 : decode cX6_sell 6 = .ok (.aload_n 3, 1) := by decide +kernel
theorem dX6_sell_7 : decode cX6_sell 7 = .ok (.getfield 98, 3) := by decide +kernel
theorem dX6_sell_10 : decode cX6_sell 10 = .ok (.iload_n 2, 1) := by decide +kernel
theorem dX6_sell_11 : decode cX6_sell 11 = .ok (.invokestatic 112, 3) := by decide +kernel
theorem dX6_sell_14 : decode cX6_sell 14 = .ok (.aload_n 3, 1) := by decide +kernel
theorem dX6_sell_15 : decode cX6_sell 15 = .ok (.getfield 98, 3) := by decide +kernel
theorem dX6_sell_18 : decode cX6_sell 18 = .ok (.getfield 116, 3) := by decide +kernel
theorem dX6_sell_21 : decode cX6_sell 21 = .ok (.iload_n 2, 1) := by decide +kernel
theorem dX6_sell_22 : decode cX6_sell 22 = .ok (.iaload, 1) := by decide +kernel
theorem dX6_sell_23 : decode cX6_sell 23 = .ok (.istore 4, 2) := by decide +kernel
theorem dX6_sell_25 : decode cX6_sell 25 = .ok (.aload_n 3, 1) := by decide +kernel
theorem dX6_sell_26 : decode cX6_sell 26 = .ok (.getfield 98, 3) := by decide +kernel
theorem dX6_sell_29 : decode cX6_sell 29 = .ok (.getfield 119, 3) := by decide +kernel
theorem dX6_sell_32 : decode cX6_sell 32 = .ok (.iload_n 2, 1) := by decide +kernel
theorem dX6_sell_33 : decode cX6_sell 33 = .ok (.iaload, 1) := by decide +kernel
theorem dX6_sell_34 : decode cX6_sell 34 = .ok (.invokestatic 122, 3) := by decide +kernel
theorem dX6_sell_37 : decode cX6_sell 37 = .ok (.istore 5, 2) := by decide +kernel
theorem dX6_sell_39 : decode cX6_sell 39 = .ok (.aload_n 3, 1) := by decide +kernel
theorem dX6_sell_40 : decode cX6_sell 40 = .ok (.getfield 98, 3) := by decide +kernel
theorem dX6_sell_43 : decode cX6_sell 43 = .ok (.iload_n 2, 1) := by decide +kernel
theorem dX6_sell_44 : decode cX6_sell 44 = .ok (.invokevirtual 125, 3) := by decide +kernel
theorem dX6_sell_47 : decode cX6_sell 47 = .ok (.aload_n 0, 1) := by decide +kernel
theorem dX6_sell_48 : decode cX6_sell 48 = .ok (.getfield 18, 3) := by decide +kernel
theorem dX6_sell_51 : decode cX6_sell 51 = .ok (.iload 4, 2) := by decide +kernel
theorem dX6_sell_53 : decode cX6_sell 53 = .ok (.iload 5, 2) := by decide +kernel
theorem dX6_sell_55 : decode cX6_sell 55 = .ok (.invokevirtual 128, 3) := by decide +kernel
theorem dX6_sell_58 : decode cX6_sell 58 = .ok (.aload_n 3, 1) := by decide +kernel
theorem dX6_sell_59 : decode cX6_sell 59 = .ok (.iload 4, 2) := by decide +kernel
theorem dX6_sell_61 : decode cX6_sell 61 = .ok (.invokestatic 94, 3) := by decide +kernel
theorem dX6_sell_64 : decode cX6_sell 64 = .ok (.iload 5, 2) := by decide +kernel
theorem dX6_sell_66 : decode cX6_sell 66 = .ok (.imul, 1) := by decide +kernel
theorem dX6_sell_67 : decode cX6_sell 67 = .ok (.invokevirtual 132, 3) := by decide +kernel
theorem dX6_sell_70 : decode cX6_sell 70 = .ok (.aload_n 3, 1) := by decide +kernel
theorem dX6_sell_71 : decode cX6_sell 71 = .ok (.getfield 61, 3) := by decide +kernel
theorem dX6_sell_74 : decode cX6_sell 74 = .ok (.ireturn, 1) := by decide +kernel
theorem dX6_toBoard_0 : decode cX6_toBoard 0 = .ok (.aload_n 0, 1) := by decide +kernel
theorem dX6_toBoard_1 : decode cX6_toBoard 1 = .ok (.iload_n 1, 1) := by decide +kernel
theorem dX6_toBoard_2 : decode cX6_toBoard 2 = .ok (.invokevirtual 57, 3) := by decide +kernel
theorem dX6_toBoard_5 : decode cX6_toBoard 5 = .ok (.astore_n 3, 1) := by decide +kernel
theorem dX6_toBoard_6 : decode cX6_toBoard 6 = .ok (.aload_n 3, 1) := by decide +kernel
theorem dX6_toBoard_7 : decode cX6_toBoard 7 = .ok (.getfield 98, 3) := by decide +kernel
theorem dX6_toBoard_10 : decode cX6_toBoard 10 = .ok (.iload_n 2, 1) := by decide +kernel
theorem dX6_toBoard_11 : decode cX6_toBoard 11 = .ok (.invokestatic 112, 3) := by decide +kernel
theorem dX6_toBoard_14 : decode cX6_toBoard 14 = .ok (.aload_n 3, 1) := by decide +kernel
theorem dX6_toBoard_15 : decode cX6_toBoard 15 = .ok (.getfield 135, 3) := by decide +kernel
theorem dX6_toBoard_18 : decode cX6_toBoard 18 = .ok (.getfield 138, 3) := by decide +kernel
theorem dX6_toBoard_21 : decode cX6_toBoard 21 = .ok (.aload_n 3, 1) := by decide +kernel
theorem dX6_toBoard_22 : decode cX6_toBoard 22 = .ok (.getfield 76, 3) := by decide +kernel
theorem dX6_toBoard_25 : decode cX6_toBoard 25 = .ok (.if_icmp .lt 13, 3) := by decide +kernel
theorem dX6_toBoard_28 : decode cX6_toBoard 28 = .ok (.new 48, 3) := by decide +kernel
theorem dX6_toBoard_31 : decode cX6_toBoard 31 = .ok (.dup, 1) := by decide +kernel
theorem dX6_toBoard_32 : decode cX6_toBoard 32 = .ok (.ldc 141, 2) := by decide +kernel
theorem dX6_toBoard_34 : decode cX6_toBoard 34 = .ok (.invokespecial 52, 3) := by decide +kernel
theorem dX6_toBoard_37 : decode cX6_toBoard 37 = .ok (.athrow, 1) := by decide +kernel
theorem dX6_toBoard_38 : decode cX6_toBoard 38 = .ok (.aload_n 3, 1) := by decide +kernel
theorem dX6_toBoard_39 : decode cX6_toBoard 39 = .ok (.getfield 135, 3) := by decide +kernel
theorem dX6_toBoard_42 : decode cX6_toBoard 42 = .ok (.aload_n 3, 1) := by decide +kernel
theorem dX6_toBoard_43 : decode cX6_toBoard 43 = .ok (.getfield 98, 3) := by decide +kernel
theorem dX6_toBoard_46 : decode cX6_toBoard 46 = .ok (.getfield 116, 3) := by decide +kernel
theorem dX6_toBoard_49 : decode cX6_toBoard 49 = .ok (.iload_n 2, 1) := by decide +kernel
theorem dX6_toBoard_50 : decode cX6_toBoard 50 = .ok (.iaload, 1) := by decide +kernel
theorem dX6_toBoard_51 : decode cX6_toBoard 51 = .ok (.aload_n 3, 1) := by decide +kernel
theorem dX6_toBoard_52 : decode cX6_toBoard 52 = .ok (.getfield 98, 3) := by decide +kernel
theorem dX6_toBoard_55 : decode cX6_toBoard 55 = .ok (.getfield 119, 3) := by decide +kernel
theorem dX6_toBoard_58 : decode cX6_toBoard 58 = .ok (.iload_n 2, 1) := by decide +kernel
theorem dX6_toBoard_59 : decode cX6_toBoard 59 = .ok (.iaload, 1) := by decide +kernel
theorem dX6_toBoard_60 : decode cX6_toBoard 60 = .ok (.invokevirtual 102, 3) := by decide +kernel
theorem dX6_toBoard_63 : decode cX6_toBoard 63 = .ok (.ifCond .eq 11, 3) := by decide +kernel
theorem dX6_toBoard_66 : decode cX6_toBoard 66 = .ok (.aload_n 3, 1) := by decide +kernel
theorem dX6_toBoard_67 : decode cX6_toBoard 67 = .ok (.getfield 98, 3) := by decide +kernel
theorem dX6_toBoard_70 : decode cX6_toBoard 70 = .ok (.iload_n 2, 1) := by decide +kernel
theorem dX6_toBoard_71 : decode cX6_toBoard 71 = .ok (.invokevirtual 125, 3) := by decide +kernel
theorem dX6_toBoard_74 : decode cX6_toBoard 74 = .ok (.aload_n 3, 1) := by decide +kernel
theorem dX6_toBoard_75 : decode cX6_toBoard 75 = .ok (.getfield 135, 3) := by decide +kernel
theorem dX6_toBoard_78 : decode cX6_toBoard 78 = .ok (.getfield 138, 3) := by decide +kernel
theorem dX6_toBoard_81 : decode cX6_toBoard 81 = .ok (.ireturn, 1) := by decide +kernel
theorem dX6_toBench_0 : decode cX6_toBench 0 = .ok (.aload_n 0, 1) := by decide +kernel
theorem dX6_toBench_1 : decode cX6_toBench 1 = .ok (.iload_n 1, 1) := by decide +kernel
theorem dX6_toBench_2 : decode cX6_toBench 2 = .ok (.invokevirtual 57, 3) := by decide +kernel
theorem dX6_toBench_5 : decode cX6_toBench 5 = .ok (.astore_n 3, 1) := by decide +kernel
theorem dX6_toBench_6 : decode cX6_toBench 6 = .ok (.aload_n 3, 1) := by decide +kernel
theorem dX6_toBench_7 : decode cX6_toBench 7 = .ok (.getfield 135, 3) := by decide +kernel
theorem dX6_toBench_10 : decode cX6_toBench 10 = .ok (.iload_n 2, 1) := by decide +kernel
theorem dX6_toBench_11 : decode cX6_toBench 11 = .ok (.invokestatic 112, 3) := by decide +kernel
theorem dX6_toBench_14 : decode cX6_toBench 14 = .ok (.aload_n 3, 1) := by decide +kernel
theorem dX6_toBench_15 : decode cX6_toBench 15 = .ok (.getfield 98, 3) := by decide +kernel
theorem dX6_toBench_18 : decode cX6_toBench 18 = .ok (.aload_n 3, 1) := by decide +kernel
theorem dX6_toBench_19 : decode cX6_toBench 19 = .ok (.getfield 135, 3) := by decide +kernel
theorem dX6_toBench_22 : decode cX6_toBench 22 = .ok (.getfield 116, 3) := by decide +kernel
theorem dX6_toBench_25 : decode cX6_toBench 25 = .ok (.iload_n 2, 1) := by decide +kernel
theorem dX6_toBench_26 : decode cX6_toBench 26 = .ok (.iaload, 1) := by decide +kernel
theorem dX6_toBench_27 : decode cX6_toBench 27 = .ok (.aload_n 3, 1) := by decide +kernel
theorem dX6_toBench_28 : decode cX6_toBench 28 = .ok (.getfield 135, 3) := by decide +kernel
theorem dX6_toBench_31 : decode cX6_toBench 31 = .ok (.getfield 119, 3) := by decide +kernel
theorem dX6_toBench_34 : decode cX6_toBench 34 = .ok (.iload_n 2, 1) := by decide +kernel
theorem dX6_toBench_35 : decode cX6_toBench 35 = .ok (.iaload, 1) := by decide +kernel
theorem dX6_toBench_36 : decode cX6_toBench 36 = .ok (.invokevirtual 102, 3) := by decide +kernel
theorem dX6_toBench_39 : decode cX6_toBench 39 = .ok (.ifCond .ne 13, 3) := by decide +kernel
theorem dX6_toBench_42 : decode cX6_toBench 42 = .ok (.new 48, 3) := by decide +kernel
theorem dX6_toBench_45 : decode cX6_toBench 45 = .ok (.dup, 1) := by decide +kernel
theorem dX6_toBench_46 : decode cX6_toBench 46 = .ok (.ldc 107, 2) := by decide +kernel
theorem dX6_toBench_48 : decode cX6_toBench 48 = .ok (.invokespecial 52, 3) := by decide +kernel
theorem dX6_toBench_51 : decode cX6_toBench 51 = .ok (.athrow, 1) := by decide +kernel
theorem dX6_toBench_52 : decode cX6_toBench 52 = .ok (.aload_n 3, 1) := by decide +kernel
theorem dX6_toBench_53 : decode cX6_toBench 53 = .ok (.getfield 135, 3) := by decide +kernel
theorem dX6_toBench_56 : decode cX6_toBench 56 = .ok (.iload_n 2, 1) := by decide +kernel
theorem dX6_toBench_57 : decode cX6_toBench 57 = .ok (.invokevirtual 125, 3) := by decide +kernel
theorem dX6_toBench_60 : decode cX6_toBench 60 = .ok (.aload_n 3, 1) := by decide +kernel
theorem dX6_toBench_61 : decode cX6_toBench 61 = .ok (.invokevirtual 109, 3) := by decide +kernel
theorem dX6_toBench_64 : decode cX6_toBench 64 = .ok (.aload_n 3, 1) := by decide +kernel
theorem dX6_toBench_65 : decode cX6_toBench 65 = .ok (.getfield 98, 3) := by decide +kernel
theorem dX6_toBench_68 : decode cX6_toBench 68 = .ok (.getfield 138, 3) := by decide +kernel
theorem dX6_toBench_71 : decode cX6_toBench 71 = .ok (.ireturn, 1) := by decide +kernel
theorem dX6_round_0 : decode cX6_round 0 = .ok (.aload_n 0, 1) := by decide +kernel
theorem dX6_round_1 : decode cX6_round 1 = .ok (.getfield 143, 3) := by decide +kernel
theorem dX6_round_4 : decode cX6_round 4 = .ok (.sipush 200, 3) := by decide +kernel
theorem dX6_round_7 : decode cX6_round 7 = .ok (.if_icmp .lt 13, 3) := by decide +kernel
theorem dX6_round_10 : decode cX6_round 10 = .ok (.new 48, 3) := by decide +kernel
theorem dX6_round_13 : decode cX6_round 13 = .ok (.dup, 1) := by decide +kernel
theorem dX6_round_14 : decode cX6_round 14 = .ok (.ldc 146, 2) := by decide +kernel
theorem dX6_round_16 : decode cX6_round 16 = .ok (.invokespecial 52, 3) := by decide +kernel
theorem dX6_round_19 : decode cX6_round 19 = .ok (.athrow, 1) := by decide +kernel
theorem dX6_round_20 : decode cX6_round 20 = .ok (.aload_n 0, 1) := by decide +kernel
theorem dX6_round_21 : decode cX6_round 21 = .ok (.getfield 143, 3) := by decide +kernel
theorem dX6_round_24 : decode cX6_round 24 = .ok (.iconst 3, 1) := by decide +kernel
theorem dX6_round_25 : decode cX6_round 25 = .ok (.irem, 1) := by decide +kernel
theorem dX6_round_26 : decode cX6_round 26 = .ok (.iconst 4, 1) := by decide +kernel
theorem dX6_round_27 : decode cX6_round 27 = .ok (.imul, 1) := by decide +kernel
theorem dX6_round_28 : decode cX6_round 28 = .ok (.istore_n 1, 1) := by decide +kernel
theorem dX6_round_29 : decode cX6_round 29 = .ok (.iconst 0, 1) := by decide +kernel
theorem dX6_round_30 : decode cX6_round 30 = .ok (.istore_n 2, 1) := by decide +kernel
theorem dX6_round_31 : decode cX6_round 31 = .ok (.iload_n 2, 1) := by decide +kernel
theorem dX6_round_32 : decode cX6_round 32 = .ok (.iconst 4, 1) := by decide +kernel
theorem dX6_round_33 : decode cX6_round 33 = .ok (.if_icmp .ge 29, 3) := by decide +kernel
theorem dX6_round_36 : decode cX6_round 36 = .ok (.aload_n 0, 1) := by decide +kernel
theorem dX6_round_37 : decode cX6_round 37 = .ok (.getstatic 148, 3) := by decide +kernel
theorem dX6_round_40 : decode cX6_round 40 = .ok (.iload_n 1, 1) := by decide +kernel
theorem dX6_round_41 : decode cX6_round 41 = .ok (.iload_n 2, 1) := by decide +kernel
theorem dX6_round_42 : decode cX6_round 42 = .ok (.iadd, 1) := by decide +kernel
theorem dX6_round_43 : decode cX6_round 43 = .ok (.iaload, 1) := by decide +kernel
theorem dX6_round_44 : decode cX6_round 44 = .ok (.getstatic 148, 3) := by decide +kernel
theorem dX6_round_47 : decode cX6_round 47 = .ok (.iload_n 1, 1) := by decide +kernel
theorem dX6_round_48 : decode cX6_round 48 = .ok (.iload_n 2, 1) := by decide +kernel
theorem dX6_round_49 : decode cX6_round 49 = .ok (.iadd, 1) := by decide +kernel
theorem dX6_round_50 : decode cX6_round 50 = .ok (.iconst 1, 1) := by decide +kernel
theorem dX6_round_51 : decode cX6_round 51 = .ok (.iadd, 1) := by decide +kernel
theorem dX6_round_52 : decode cX6_round 52 = .ok (.iaload, 1) := by decide +kernel
theorem dX6_round_53 : decode cX6_round 53 = .ok (.invokevirtual 151, 3) := by decide +kernel
theorem dX6_round_56 : decode cX6_round 56 = .ok (.iinc 2 2, 3) := by decide +kernel
theorem dX6_round_59 : decode cX6_round 59 = .ok (.goto (-28), 3) := by decide +kernel
theorem dX6_round_62 : decode cX6_round 62 = .ok (.iconst 0, 1) := by decide +kernel
theorem dX6_round_63 : decode cX6_round 63 = .ok (.istore_n 2, 1) := by decide +kernel
theorem dX6_round_64 : decode cX6_round 64 = .ok (.iload_n 2, 1) := by decide +kernel
theorem dX6_round_65 : decode cX6_round 65 = .ok (.iconst 4, 1) := by decide +kernel
theorem dX6_round_66 : decode cX6_round 66 = .ok (.if_icmp .ge 18, 3) := by decide +kernel
theorem dX6_round_69 : decode cX6_round 69 = .ok (.aload_n 0, 1) := by decide +kernel
theorem dX6_round_70 : decode cX6_round 70 = .ok (.getfield 11, 3) := by decide +kernel
theorem dX6_round_73 : decode cX6_round 73 = .ok (.iload_n 2, 1) := by decide +kernel
theorem dX6_round_74 : decode cX6_round 74 = .ok (.aaload, 1) := by decide +kernel
theorem dX6_round_75 : decode cX6_round 75 = .ok (.invokevirtual 154, 3) := by decide +kernel
theorem dX6_round_78 : decode cX6_round 78 = .ok (.iinc 2 1, 3) := by decide +kernel
theorem dX6_round_81 : decode cX6_round 81 = .ok (.goto (-17), 3) := by decide +kernel
theorem dX6_round_84 : decode cX6_round 84 = .ok (.aload_n 0, 1) := by decide +kernel
theorem dX6_round_85 : decode cX6_round 85 = .ok (.invokevirtual 157, 3) := by decide +kernel
theorem dX6_round_88 : decode cX6_round 88 = .ok (.aload_n 0, 1) := by decide +kernel
theorem dX6_round_89 : decode cX6_round 89 = .ok (.dup, 1) := by decide +kernel
theorem dX6_round_90 : decode cX6_round 90 = .ok (.getfield 143, 3) := by decide +kernel
theorem dX6_round_93 : decode cX6_round 93 = .ok (.iconst 1, 1) := by decide +kernel
theorem dX6_round_94 : decode cX6_round 94 = .ok (.iadd, 1) := by decide +kernel
theorem dX6_round_95 : decode cX6_round 95 = .ok (.putfield 143, 3) := by decide +kernel
theorem dX6_round_98 : decode cX6_round 98 = .ok (.aload_n 0, 1) := by decide +kernel
theorem dX6_round_99 : decode cX6_round 99 = .ok (.invokevirtual 160, 3) := by decide +kernel
theorem dX6_round_102 : decode cX6_round 102 = .ok (.ireturn, 1) := by decide +kernel
theorem dX6_rounds_0 : decode cX6_rounds 0 = .ok (.aload_n 0, 1) := by decide +kernel
theorem dX6_rounds_1 : decode cX6_rounds 1 = .ok (.getfield 143, 3) := by decide +kernel
theorem dX6_rounds_4 : decode cX6_rounds 4 = .ok (.ireturn, 1) := by decide +kernel
theorem dX6_fight_0 : decode cX6_fight 0 = .ok (.aload_n 0, 1) := by decide +kernel
theorem dX6_fight_1 : decode cX6_fight 1 = .ok (.iload_n 1, 1) := by decide +kernel
theorem dX6_fight_2 : decode cX6_fight 2 = .ok (.iload_n 2, 1) := by decide +kernel
theorem dX6_fight_3 : decode cX6_fight 3 = .ok (.invokevirtual 164, 3) := by decide +kernel
theorem dX6_fight_6 : decode cX6_fight 6 = .ok (.aload_n 0, 1) := by decide +kernel
theorem dX6_fight_7 : decode cX6_fight 7 = .ok (.getfield 32, 3) := by decide +kernel
theorem dX6_fight_10 : decode cX6_fight 10 = .ok (.invokevirtual 167, 3) := by decide +kernel
theorem dX6_fight_13 : decode cX6_fight 13 = .ok (.aload_n 0, 1) := by decide +kernel
theorem dX6_fight_14 : decode cX6_fight 14 = .ok (.getfield 32, 3) := by decide +kernel
theorem dX6_fight_17 : decode cX6_fight 17 = .ok (.invokevirtual 170, 3) := by decide +kernel
theorem dX6_fight_20 : decode cX6_fight 20 = .ok (.ireturn, 1) := by decide +kernel
theorem dX6_fightByRecord_0 : decode cX6_fightByRecord 0 = .ok (.aload_n 0, 1) := by decide +kernel
theorem dX6_fightByRecord_1 : decode cX6_fightByRecord 1 = .ok (.iload_n 1, 1) := by decide +kernel
theorem dX6_fightByRecord_2 : decode cX6_fightByRecord 2 = .ok (.iload_n 2, 1) := by decide +kernel
theorem dX6_fightByRecord_3 : decode cX6_fightByRecord 3 = .ok (.invokevirtual 164, 3) := by decide +kernel
theorem dX6_fightByRecord_6 : decode cX6_fightByRecord 6 = .ok (.aload_n 0, 1) := by decide +kernel
theorem dX6_fightByRecord_7 : decode cX6_fightByRecord 7 = .ok (.getfield 32, 3) := by decide +kernel
theorem dX6_fightByRecord_10 : decode cX6_fightByRecord 10 = .ok (.invokevirtual 167, 3) := by decide +kernel
theorem dX6_fightByRecord_13 : decode cX6_fightByRecord 13 = .ok (.aload_n 0, 1) := by decide +kernel
theorem dX6_fightByRecord_14 : decode cX6_fightByRecord 14 = .ok (.iload_n 1, 1) := by decide +kernel
theorem dX6_fightByRecord_15 : decode cX6_fightByRecord 15 = .ok (.iload_n 2, 1) := by decide +kernel
theorem dX6_fightByRecord_16 : decode cX6_fightByRecord 16 = .ok (.invokevirtual 164, 3) := by decide +kernel
theorem dX6_fightByRecord_19 : decode cX6_fightByRecord 19 = .ok (.aload_n 0, 1) := by decide +kernel
theorem dX6_fightByRecord_20 : decode cX6_fightByRecord 20 = .ok (.getfield 32, 3) := by decide +kernel
theorem dX6_fightByRecord_23 : decode cX6_fightByRecord 23 = .ok (.invokevirtual 173, 3) := by decide +kernel
theorem dX6_fightByRecord_26 : decode cX6_fightByRecord 26 = .ok (.aload_n 0, 1) := by decide +kernel
theorem dX6_fightByRecord_27 : decode cX6_fightByRecord 27 = .ok (.getfield 32, 3) := by decide +kernel
theorem dX6_fightByRecord_30 : decode cX6_fightByRecord 30 = .ok (.invokevirtual 170, 3) := by decide +kernel
theorem dX6_fightByRecord_33 : decode cX6_fightByRecord 33 = .ok (.ireturn, 1) := by decide +kernel
theorem dX6_gold_0 : decode cX6_gold 0 = .ok (.aload_n 0, 1) := by decide +kernel
theorem dX6_gold_1 : decode cX6_gold 1 = .ok (.iload_n 1, 1) := by decide +kernel
theorem dX6_gold_2 : decode cX6_gold 2 = .ok (.invokevirtual 57, 3) := by decide +kernel
theorem dX6_gold_5 : decode cX6_gold 5 = .ok (.getfield 61, 3) := by decide +kernel
theorem dX6_gold_8 : decode cX6_gold 8 = .ok (.ireturn, 1) := by decide +kernel
theorem dX6_health_0 : decode cX6_health 0 = .ok (.aload_n 0, 1) := by decide +kernel
theorem dX6_health_1 : decode cX6_health 1 = .ok (.iload_n 1, 1) := by decide +kernel
theorem dX6_health_2 : decode cX6_health 2 = .ok (.invokevirtual 57, 3) := by decide +kernel
theorem dX6_health_5 : decode cX6_health 5 = .ok (.getfield 176, 3) := by decide +kernel
theorem dX6_health_8 : decode cX6_health 8 = .ok (.ireturn, 1) := by decide +kernel
theorem dX6_streak_0 : decode cX6_streak 0 = .ok (.aload_n 0, 1) := by decide +kernel
theorem dX6_streak_1 : decode cX6_streak 1 = .ok (.iload_n 1, 1) := by decide +kernel
theorem dX6_streak_2 : decode cX6_streak 2 = .ok (.invokevirtual 57, 3) := by decide +kernel
theorem dX6_streak_5 : decode cX6_streak 5 = .ok (.getfield 179, 3) := by decide +kernel
theorem dX6_streak_8 : decode cX6_streak 8 = .ok (.ireturn, 1) := by decide +kernel
theorem dX6_shopAt_0 : decode cX6_shopAt 0 = .ok (.aload_n 0, 1) := by decide +kernel
theorem dX6_shopAt_1 : decode cX6_shopAt 1 = .ok (.iload_n 1, 1) := by decide +kernel
theorem dX6_shopAt_2 : decode cX6_shopAt 2 = .ok (.invokevirtual 57, 3) := by decide +kernel
theorem dX6_shopAt_5 : decode cX6_shopAt 5 = .ok (.astore_n 3, 1) := by decide +kernel
theorem dX6_shopAt_6 : decode cX6_shopAt 6 = .ok (.iload_n 2, 1) := by decide +kernel
theorem dX6_shopAt_7 : decode cX6_shopAt 7 = .ok (.invokestatic 81, 3) := by decide +kernel
theorem dX6_shopAt_10 : decode cX6_shopAt 10 = .ok (.aload_n 3, 1) := by decide +kernel
theorem dX6_shopAt_11 : decode cX6_shopAt 11 = .ok (.getfield 85, 3) := by decide +kernel
theorem dX6_shopAt_14 : decode cX6_shopAt 14 = .ok (.iload_n 2, 1) := by decide +kernel
theorem dX6_shopAt_15 : decode cX6_shopAt 15 = .ok (.iaload, 1) := by decide +kernel
theorem dX6_shopAt_16 : decode cX6_shopAt 16 = .ok (.ireturn, 1) := by decide +kernel
theorem dX6_benchAt_0 : decode cX6_benchAt 0 = .ok (.aload_n 0, 1) := by decide +kernel
theorem dX6_benchAt_1 : decode cX6_benchAt 1 = .ok (.iload_n 1, 1) := by decide +kernel
theorem dX6_benchAt_2 : decode cX6_benchAt 2 = .ok (.invokevirtual 57, 3) := by decide +kernel
theorem dX6_benchAt_5 : decode cX6_benchAt 5 = .ok (.astore_n 3, 1) := by decide +kernel
theorem dX6_benchAt_6 : decode cX6_benchAt 6 = .ok (.iload_n 2, 1) := by decide +kernel
theorem dX6_benchAt_7 : decode cX6_benchAt 7 = .ok (.ifCond .lt 9, 3) := by decide +kernel
theorem dX6_benchAt_10 : decode cX6_benchAt 10 = .ok (.iload_n 2, 1) := by decide +kernel
theorem dX6_benchAt_11 : decode cX6_benchAt 11 = .ok (.bipush 6, 2) := by decide +kernel
theorem dX6_benchAt_13 : decode cX6_benchAt 13 = .ok (.if_icmp .lt 13, 3) := by decide +kernel
theorem dX6_benchAt_16 : decode cX6_benchAt 16 = .ok (.new 182, 3) := by decide +kernel
theorem dX6_benchAt_19 : decode cX6_benchAt 19 = .ok (.dup, 1) := by decide +kernel
theorem dX6_benchAt_20 : decode cX6_benchAt 20 = .ok (.ldc 184, 2) := by decide +kernel
theorem dX6_benchAt_22 : decode cX6_benchAt 22 = .ok (.invokespecial 186, 3) := by decide +kernel
theorem dX6_benchAt_25 : decode cX6_benchAt 25 = .ok (.athrow, 1) := by decide +kernel
theorem dX6_benchAt_26 : decode cX6_benchAt 26 = .ok (.aload_n 3, 1) := by decide +kernel
theorem dX6_benchAt_27 : decode cX6_benchAt 27 = .ok (.getfield 98, 3) := by decide +kernel
theorem dX6_benchAt_30 : decode cX6_benchAt 30 = .ok (.iload_n 2, 1) := by decide +kernel
theorem dX6_benchAt_31 : decode cX6_benchAt 31 = .ok (.invokevirtual 187, 3) := by decide +kernel
theorem dX6_benchAt_34 : decode cX6_benchAt 34 = .ok (.ireturn, 1) := by decide +kernel
theorem dX6_boardAt_0 : decode cX6_boardAt 0 = .ok (.aload_n 0, 1) := by decide +kernel
theorem dX6_boardAt_1 : decode cX6_boardAt 1 = .ok (.iload_n 1, 1) := by decide +kernel
theorem dX6_boardAt_2 : decode cX6_boardAt 2 = .ok (.invokevirtual 57, 3) := by decide +kernel
theorem dX6_boardAt_5 : decode cX6_boardAt 5 = .ok (.astore_n 3, 1) := by decide +kernel
theorem dX6_boardAt_6 : decode cX6_boardAt 6 = .ok (.iload_n 2, 1) := by decide +kernel
theorem dX6_boardAt_7 : decode cX6_boardAt 7 = .ok (.ifCond .lt 8, 3) := by decide +kernel
theorem dX6_boardAt_10 : decode cX6_boardAt 10 = .ok (.iload_n 2, 1) := by decide +kernel
theorem dX6_boardAt_11 : decode cX6_boardAt 11 = .ok (.iconst 5, 1) := by decide +kernel
theorem dX6_boardAt_12 : decode cX6_boardAt 12 = .ok (.if_icmp .lt 13, 3) := by decide +kernel
theorem dX6_boardAt_15 : decode cX6_boardAt 15 = .ok (.new 182, 3) := by decide +kernel
theorem dX6_boardAt_18 : decode cX6_boardAt 18 = .ok (.dup, 1) := by decide +kernel
theorem dX6_boardAt_19 : decode cX6_boardAt 19 = .ok (.ldc 190, 2) := by decide +kernel
theorem dX6_boardAt_21 : decode cX6_boardAt 21 = .ok (.invokespecial 186, 3) := by decide +kernel
theorem dX6_boardAt_24 : decode cX6_boardAt 24 = .ok (.athrow, 1) := by decide +kernel
theorem dX6_boardAt_25 : decode cX6_boardAt 25 = .ok (.aload_n 3, 1) := by decide +kernel
theorem dX6_boardAt_26 : decode cX6_boardAt 26 = .ok (.getfield 135, 3) := by decide +kernel
theorem dX6_boardAt_29 : decode cX6_boardAt 29 = .ok (.iload_n 2, 1) := by decide +kernel
theorem dX6_boardAt_30 : decode cX6_boardAt 30 = .ok (.invokevirtual 187, 3) := by decide +kernel
theorem dX6_boardAt_33 : decode cX6_boardAt 33 = .ok (.ireturn, 1) := by decide +kernel
theorem dX6_blow_0 : decode cX6_blow 0 = .ok (.aload_n 0, 1) := by decide +kernel
theorem dX6_blow_1 : decode cX6_blow 1 = .ok (.iload_n 1, 1) := by decide +kernel
theorem dX6_blow_2 : decode cX6_blow 2 = .ok (.invokevirtual 57, 3) := by decide +kernel
theorem dX6_blow_5 : decode cX6_blow 5 = .ok (.astore_n 3, 1) := by decide +kernel
theorem dX6_blow_6 : decode cX6_blow 6 = .ok (.aload_n 3, 1) := by decide +kernel
theorem dX6_blow_7 : decode cX6_blow 7 = .ok (.getfield 135, 3) := by decide +kernel
theorem dX6_blow_10 : decode cX6_blow 10 = .ok (.iload_n 2, 1) := by decide +kernel
theorem dX6_blow_11 : decode cX6_blow 11 = .ok (.invokestatic 112, 3) := by decide +kernel
theorem dX6_blow_14 : decode cX6_blow 14 = .ok (.aload_n 3, 1) := by decide +kernel
theorem dX6_blow_15 : decode cX6_blow 15 = .ok (.getfield 135, 3) := by decide +kernel
theorem dX6_blow_18 : decode cX6_blow 18 = .ok (.iload_n 2, 1) := by decide +kernel
theorem dX6_blow_19 : decode cX6_blow 19 = .ok (.invokevirtual 192, 3) := by decide +kernel
theorem dX6_blow_22 : decode cX6_blow 22 = .ok (.ireturn, 1) := by decide +kernel
theorem dX6_pool_0 : decode cX6_pool 0 = .ok (.iload_n 1, 1) := by decide +kernel
theorem dX6_pool_1 : decode cX6_pool 1 = .ok (.invokestatic 195, 3) := by decide +kernel
theorem dX6_pool_4 : decode cX6_pool 4 = .ok (.aload_n 0, 1) := by decide +kernel
theorem dX6_pool_5 : decode cX6_pool 5 = .ok (.getfield 18, 3) := by decide +kernel
theorem dX6_pool_8 : decode cX6_pool 8 = .ok (.getfield 198, 3) := by decide +kernel
theorem dX6_pool_11 : decode cX6_pool 11 = .ok (.iload_n 1, 1) := by decide +kernel
theorem dX6_pool_12 : decode cX6_pool 12 = .ok (.iaload, 1) := by decide +kernel
theorem dX6_pool_13 : decode cX6_pool 13 = .ok (.ireturn, 1) := by decide +kernel
theorem dX6_out_0 : decode cX6_out 0 = .ok (.iload_n 1, 1) := by decide +kernel
theorem dX6_out_1 : decode cX6_out 1 = .ok (.invokestatic 195, 3) := by decide +kernel
theorem dX6_out_4 : decode cX6_out 4 = .ok (.iconst 0, 1) := by decide +kernel
theorem dX6_out_5 : decode cX6_out 5 = .ok (.istore_n 2, 1) := by decide +kernel
theorem dX6_out_6 : decode cX6_out 6 = .ok (.iconst 0, 1) := by decide +kernel
theorem dX6_out_7 : decode cX6_out 7 = .ok (.istore_n 3, 1) := by decide +kernel
theorem dX6_out_8 : decode cX6_out 8 = .ok (.iload_n 3, 1) := by decide +kernel
theorem dX6_out_9 : decode cX6_out 9 = .ok (.iconst 4, 1) := by decide +kernel
theorem dX6_out_10 : decode cX6_out 10 = .ok (.if_icmp .ge 22, 3) := by decide +kernel
theorem dX6_out_13 : decode cX6_out 13 = .ok (.iload_n 2, 1) := by decide +kernel
theorem dX6_out_14 : decode cX6_out 14 = .ok (.aload_n 0, 1) := by decide +kernel
theorem dX6_out_15 : decode cX6_out 15 = .ok (.getfield 11, 3) := by decide +kernel
theorem dX6_out_18 : decode cX6_out 18 = .ok (.iload_n 3, 1) := by decide +kernel
theorem dX6_out_19 : decode cX6_out 19 = .ok (.aaload, 1) := by decide +kernel
theorem dX6_out_20 : decode cX6_out 20 = .ok (.iload_n 1, 1) := by decide +kernel
theorem dX6_out_21 : decode cX6_out 21 = .ok (.invokevirtual 201, 3) := by decide +kernel
theorem dX6_out_24 : decode cX6_out 24 = .ok (.iadd, 1) := by decide +kernel
theorem dX6_out_25 : decode cX6_out 25 = .ok (.istore_n 2, 1) := by decide +kernel
theorem dX6_out_26 : decode cX6_out 26 = .ok (.iinc 3 1, 3) := by decide +kernel
theorem dX6_out_29 : decode cX6_out 29 = .ok (.goto (-21), 3) := by decide +kernel
theorem dX6_out_32 : decode cX6_out 32 = .ok (.iload_n 2, 1) := by decide +kernel
theorem dX6_out_33 : decode cX6_out 33 = .ok (.ireturn, 1) := by decide +kernel
theorem dX6_playerOf_0 : decode cX6_playerOf 0 = .ok (.iload_n 1, 1) := by decide +kernel
theorem dX6_playerOf_1 : decode cX6_playerOf 1 = .ok (.ifCond .lt 8, 3) := by decide +kernel
theorem dX6_playerOf_4 : decode cX6_playerOf 4 = .ok (.iload_n 1, 1) := by decide +kernel
theorem dX6_playerOf_5 : decode cX6_playerOf 5 = .ok (.iconst 4, 1) := by decide +kernel
theorem dX6_playerOf_6 : decode cX6_playerOf 6 = .ok (.if_icmp .lt 13, 3) := by decide +kernel
theorem dX6_playerOf_9 : decode cX6_playerOf 9 = .ok (.new 182, 3) := by decide +kernel
theorem dX6_playerOf_12 : decode cX6_playerOf 12 = .ok (.dup, 1) := by decide +kernel
theorem dX6_playerOf_13 : decode cX6_playerOf 13 = .ok (.ldc 204, 2) := by decide +kernel
theorem dX6_playerOf_15 : decode cX6_playerOf 15 = .ok (.invokespecial 186, 3) := by decide +kernel
theorem dX6_playerOf_18 : decode cX6_playerOf 18 = .ok (.athrow, 1) := by decide +kernel
theorem dX6_playerOf_19 : decode cX6_playerOf 19 = .ok (.aload_n 0, 1) := by decide +kernel
theorem dX6_playerOf_20 : decode cX6_playerOf 20 = .ok (.getfield 11, 3) := by decide +kernel
theorem dX6_playerOf_23 : decode cX6_playerOf 23 = .ok (.iload_n 1, 1) := by decide +kernel
theorem dX6_playerOf_24 : decode cX6_playerOf 24 = .ok (.aaload, 1) := by decide +kernel
theorem dX6_playerOf_25 : decode cX6_playerOf 25 = .ok (.areturn, 1) := by decide +kernel
theorem dX6_requireKind_0 : decode cX6_requireKind 0 = .ok (.iload_n 0, 1) := by decide +kernel
theorem dX6_requireKind_1 : decode cX6_requireKind 1 = .ok (.ifCond .lt 9, 3) := by decide +kernel
theorem dX6_requireKind_4 : decode cX6_requireKind 4 = .ok (.iload_n 0, 1) := by decide +kernel
theorem dX6_requireKind_5 : decode cX6_requireKind 5 = .ok (.bipush 9, 2) := by decide +kernel
theorem dX6_requireKind_7 : decode cX6_requireKind 7 = .ok (.if_icmp .lt 13, 3) := by decide +kernel
theorem dX6_requireKind_10 : decode cX6_requireKind 10 = .ok (.new 182, 3) := by decide +kernel
theorem dX6_requireKind_13 : decode cX6_requireKind 13 = .ok (.dup, 1) := by decide +kernel
theorem dX6_requireKind_14 : decode cX6_requireKind 14 = .ok (.ldc 206, 2) := by decide +kernel
theorem dX6_requireKind_16 : decode cX6_requireKind 16 = .ok (.invokespecial 186, 3) := by decide +kernel
theorem dX6_requireKind_19 : decode cX6_requireKind 19 = .ok (.athrow, 1) := by decide +kernel
theorem dX6_requireKind_20 : decode cX6_requireKind 20 = .ok (.return_, 1) := by decide +kernel
theorem dX6_requireSlot_0 : decode cX6_requireSlot 0 = .ok (.iload_n 0, 1) := by decide +kernel
theorem dX6_requireSlot_1 : decode cX6_requireSlot 1 = .ok (.ifCond .lt 8, 3) := by decide +kernel
theorem dX6_requireSlot_4 : decode cX6_requireSlot 4 = .ok (.iload_n 0, 1) := by decide +kernel
theorem dX6_requireSlot_5 : decode cX6_requireSlot 5 = .ok (.iconst 3, 1) := by decide +kernel
theorem dX6_requireSlot_6 : decode cX6_requireSlot 6 = .ok (.if_icmp .lt 13, 3) := by decide +kernel
theorem dX6_requireSlot_9 : decode cX6_requireSlot 9 = .ok (.new 182, 3) := by decide +kernel
theorem dX6_requireSlot_12 : decode cX6_requireSlot 12 = .ok (.dup, 1) := by decide +kernel
theorem dX6_requireSlot_13 : decode cX6_requireSlot 13 = .ok (.ldc 208, 2) := by decide +kernel
theorem dX6_requireSlot_15 : decode cX6_requireSlot 15 = .ok (.invokespecial 186, 3) := by decide +kernel
theorem dX6_requireSlot_18 : decode cX6_requireSlot 18 = .ok (.athrow, 1) := by decide +kernel
theorem dX6_requireSlot_19 : decode cX6_requireSlot 19 = .ok (.return_, 1) := by decide +kernel
theorem dX6_requireUnit_0 : decode cX6_requireUnit 0 = .ok (.aload_n 0, 1) := by decide +kernel
theorem dX6_requireUnit_1 : decode cX6_requireUnit 1 = .ok (.iload_n 1, 1) := by decide +kernel
theorem dX6_requireUnit_2 : decode cX6_requireUnit 2 = .ok (.invokevirtual 210, 3) := by decide +kernel
theorem dX6_requireUnit_5 : decode cX6_requireUnit 5 = .ok (.ifCond .ne 13, 3) := by decide +kernel
theorem dX6_requireUnit_8 : decode cX6_requireUnit 8 = .ok (.new 182, 3) := by decide +kernel
theorem dX6_requireUnit_11 : decode cX6_requireUnit 11 = .ok (.dup, 1) := by decide +kernel
theorem dX6_requireUnit_12 : decode cX6_requireUnit 12 = .ok (.ldc 213, 2) := by decide +kernel
theorem dX6_requireUnit_14 : decode cX6_requireUnit 14 = .ok (.invokespecial 186, 3) := by decide +kernel
theorem dX6_requireUnit_17 : decode cX6_requireUnit 17 = .ok (.athrow, 1) := by decide +kernel
theorem dX6_requireUnit_18 : decode cX6_requireUnit 18 = .ok (.return_, 1) := by decide +kernel
theorem dX6_musterSides_0 : decode cX6_musterSides 0 = .ok (.aload_n 0, 1) := by decide +kernel
theorem dX6_musterSides_1 : decode cX6_musterSides 1 = .ok (.iload_n 1, 1) := by decide +kernel
theorem dX6_musterSides_2 : decode cX6_musterSides 2 = .ok (.invokevirtual 57, 3) := by decide +kernel
theorem dX6_musterSides_5 : decode cX6_musterSides 5 = .ok (.astore_n 3, 1) := by decide +kernel
theorem dX6_musterSides_6 : decode cX6_musterSides 6 = .ok (.aload_n 0, 1) := by decide +kernel
theorem dX6_musterSides_7 : decode cX6_musterSides 7 = .ok (.iload_n 2, 1) := by decide +kernel
theorem dX6_musterSides_8 : decode cX6_musterSides 8 = .ok (.invokevirtual 57, 3) := by decide +kernel
theorem dX6_musterSides_11 : decode cX6_musterSides 11 = .ok (.astore 4, 2) := by decide +kernel
theorem dX6_musterSides_13 : decode cX6_musterSides 13 = .ok (.iload_n 1, 1) := by decide +kernel
theorem dX6_musterSides_14 : decode cX6_musterSides 14 = .ok (.iload_n 2, 1) := by decide +kernel
theorem dX6_musterSides_15 : decode cX6_musterSides 15 = .ok (.if_icmp .ne 13, 3) := by decide +kernel
theorem dX6_musterSides_18 : decode cX6_musterSides 18 = .ok (.new 37, 3) := by decide +kernel
theorem dX6_musterSides_21 : decode cX6_musterSides 21 = .ok (.dup, 1) := by decide +kernel
theorem dX6_musterSides_22 : decode cX6_musterSides 22 = .ok (.ldc 215, 2) := by decide +kernel
theorem dX6_musterSides_24 : decode cX6_musterSides 24 = .ok (.invokespecial 41, 3) := by decide +kernel
theorem dX6_musterSides_27 : decode cX6_musterSides 27 = .ok (.athrow, 1) := by decide +kernel
theorem dX6_musterSides_28 : decode cX6_musterSides 28 = .ok (.aload_n 0, 1) := by decide +kernel
theorem dX6_musterSides_29 : decode cX6_musterSides 29 = .ok (.getfield 32, 3) := by decide +kernel
theorem dX6_musterSides_32 : decode cX6_musterSides 32 = .ok (.aload_n 3, 1) := by decide +kernel
theorem dX6_musterSides_33 : decode cX6_musterSides 33 = .ok (.getfield 135, 3) := by decide +kernel
theorem dX6_musterSides_36 : decode cX6_musterSides 36 = .ok (.aload 4, 2) := by decide +kernel
theorem dX6_musterSides_38 : decode cX6_musterSides 38 = .ok (.getfield 135, 3) := by decide +kernel
theorem dX6_musterSides_41 : decode cX6_musterSides 41 = .ok (.invokevirtual 217, 3) := by decide +kernel
theorem dX6_musterSides_44 : decode cX6_musterSides 44 = .ok (.return_, 1) := by decide +kernel
theorem dX6_fightPair_0 : decode cX6_fightPair 0 = .ok (.aload_n 0, 1) := by decide +kernel
theorem dX6_fightPair_1 : decode cX6_fightPair 1 = .ok (.iload_n 1, 1) := by decide +kernel
theorem dX6_fightPair_2 : decode cX6_fightPair 2 = .ok (.iload_n 2, 1) := by decide +kernel
theorem dX6_fightPair_3 : decode cX6_fightPair 3 = .ok (.invokevirtual 164, 3) := by decide +kernel
theorem dX6_fightPair_6 : decode cX6_fightPair 6 = .ok (.aload_n 0, 1) := by decide +kernel
theorem dX6_fightPair_7 : decode cX6_fightPair 7 = .ok (.getfield 32, 3) := by decide +kernel
theorem dX6_fightPair_10 : decode cX6_fightPair 10 = .ok (.invokevirtual 167, 3) := by decide +kernel
theorem dX6_fightPair_13 : decode cX6_fightPair 13 = .ok (.aload_n 0, 1) := by decide +kernel
theorem dX6_fightPair_14 : decode cX6_fightPair 14 = .ok (.getfield 32, 3) := by decide +kernel
theorem dX6_fightPair_17 : decode cX6_fightPair 17 = .ok (.invokevirtual 170, 3) := by decide +kernel
theorem dX6_fightPair_20 : decode cX6_fightPair 20 = .ok (.istore_n 3, 1) := by decide +kernel
theorem dX6_fightPair_21 : decode cX6_fightPair 21 = .ok (.iload_n 3, 1) := by decide +kernel
theorem dX6_fightPair_22 : decode cX6_fightPair 22 = .ok (.ifCond .le 27, 3) := by decide +kernel
theorem dX6_fightPair_25 : decode cX6_fightPair 25 = .ok (.aload_n 0, 1) := by decide +kernel
theorem dX6_fightPair_26 : decode cX6_fightPair 26 = .ok (.getfield 11, 3) := by decide +kernel
theorem dX6_fightPair_29 : decode cX6_fightPair 29 = .ok (.iload_n 1, 1) := by decide +kernel
theorem dX6_fightPair_30 : decode cX6_fightPair 30 = .ok (.aaload, 1) := by decide +kernel
theorem dX6_fightPair_31 : decode cX6_fightPair 31 = .ok (.invokevirtual 221, 3) := by decide +kernel
theorem dX6_fightPair_34 : decode cX6_fightPair 34 = .ok (.aload_n 0, 1) := by decide +kernel
theorem dX6_fightPair_35 : decode cX6_fightPair 35 = .ok (.getfield 11, 3) := by decide +kernel
theorem dX6_fightPair_38 : decode cX6_fightPair 38 = .ok (.iload_n 2, 1) := by decide +kernel
theorem dX6_fightPair_39 : decode cX6_fightPair 39 = .ok (.aaload, 1) := by decide +kernel
theorem dX6_fightPair_40 : decode cX6_fightPair 40 = .ok (.iload_n 3, 1) := by decide +kernel
theorem dX6_fightPair_41 : decode cX6_fightPair 41 = .ok (.iconst 1, 1) := by decide +kernel
theorem dX6_fightPair_42 : decode cX6_fightPair 42 = .ok (.iadd, 1) := by decide +kernel
theorem dX6_fightPair_43 : decode cX6_fightPair 43 = .ok (.invokevirtual 224, 3) := by decide +kernel
theorem dX6_fightPair_46 : decode cX6_fightPair 46 = .ok (.goto 51, 3) := by decide +kernel
theorem dX6_fightPair_49 : decode cX6_fightPair 49 = .ok (.iload_n 3, 1) := by decide +kernel
theorem dX6_fightPair_50 : decode cX6_fightPair 50 = .ok (.ifCond .ge 27, 3) := by decide +kernel
theorem dX6_fightPair_53 : decode cX6_fightPair 53 = .ok (.aload_n 0, 1) := by decide +kernel
theorem dX6_fightPair_54 : decode cX6_fightPair 54 = .ok (.getfield 11, 3) := by decide +kernel
theorem dX6_fightPair_57 : decode cX6_fightPair 57 = .ok (.iload_n 2, 1) := by decide +kernel
theorem dX6_fightPair_58 : decode cX6_fightPair 58 = .ok (.aaload, 1) := by decide +kernel
theorem dX6_fightPair_59 : decode cX6_fightPair 59 = .ok (.invokevirtual 221, 3) := by decide +kernel
theorem dX6_fightPair_62 : decode cX6_fightPair 62 = .ok (.aload_n 0, 1) := by decide +kernel
theorem dX6_fightPair_63 : decode cX6_fightPair 63 = .ok (.getfield 11, 3) := by decide +kernel
theorem dX6_fightPair_66 : decode cX6_fightPair 66 = .ok (.iload_n 1, 1) := by decide +kernel
theorem dX6_fightPair_67 : decode cX6_fightPair 67 = .ok (.aaload, 1) := by decide +kernel
theorem dX6_fightPair_68 : decode cX6_fightPair 68 = .ok (.iconst 1, 1) := by decide +kernel
theorem dX6_fightPair_69 : decode cX6_fightPair 69 = .ok (.iload_n 3, 1) := by decide +kernel
theorem dX6_fightPair_70 : decode cX6_fightPair 70 = .ok (.isub, 1) := by decide +kernel
theorem dX6_fightPair_71 : decode cX6_fightPair 71 = .ok (.invokevirtual 224, 3) := by decide +kernel
theorem dX6_fightPair_74 : decode cX6_fightPair 74 = .ok (.goto 23, 3) := by decide +kernel
theorem dX6_fightPair_77 : decode cX6_fightPair 77 = .ok (.aload_n 0, 1) := by decide +kernel
theorem dX6_fightPair_78 : decode cX6_fightPair 78 = .ok (.getfield 11, 3) := by decide +kernel
theorem dX6_fightPair_81 : decode cX6_fightPair 81 = .ok (.iload_n 1, 1) := by decide +kernel
theorem dX6_fightPair_82 : decode cX6_fightPair 82 = .ok (.aaload, 1) := by decide +kernel
theorem dX6_fightPair_83 : decode cX6_fightPair 83 = .ok (.iconst 0, 1) := by decide +kernel
theorem dX6_fightPair_84 : decode cX6_fightPair 84 = .ok (.putfield 179, 3) := by decide +kernel
theorem dX6_fightPair_87 : decode cX6_fightPair 87 = .ok (.aload_n 0, 1) := by decide +kernel
theorem dX6_fightPair_88 : decode cX6_fightPair 88 = .ok (.getfield 11, 3) := by decide +kernel
theorem dX6_fightPair_91 : decode cX6_fightPair 91 = .ok (.iload_n 2, 1) := by decide +kernel
theorem dX6_fightPair_92 : decode cX6_fightPair 92 = .ok (.aaload, 1) := by decide +kernel
theorem dX6_fightPair_93 : decode cX6_fightPair 93 = .ok (.iconst 0, 1) := by decide +kernel
theorem dX6_fightPair_94 : decode cX6_fightPair 94 = .ok (.putfield 179, 3) := by decide +kernel
theorem dX6_fightPair_97 : decode cX6_fightPair 97 = .ok (.return_, 1) := by decide +kernel
theorem dX6_fillUnlockedShops_0 : decode cX6_fillUnlockedShops 0 = .ok (.iconst 0, 1) := by decide +kernel
theorem dX6_fillUnlockedShops_1 : decode cX6_fillUnlockedShops 1 = .ok (.istore_n 1, 1) := by decide +kernel
theorem dX6_fillUnlockedShops_2 : decode cX6_fillUnlockedShops 2 = .ok (.iload_n 1, 1) := by decide +kernel
theorem dX6_fillUnlockedShops_3 : decode cX6_fillUnlockedShops 3 = .ok (.iconst 4, 1) := by decide +kernel
theorem dX6_fillUnlockedShops_4 : decode cX6_fillUnlockedShops 4 = .ok (.if_icmp .ge 33, 3) := by decide +kernel
theorem dX6_fillUnlockedShops_7 : decode cX6_fillUnlockedShops 7 = .ok (.aload_n 0, 1) := by decide +kernel
theorem dX6_fillUnlockedShops_8 : decode cX6_fillUnlockedShops 8 = .ok (.getfield 11, 3) := by decide +kernel
theorem dX6_fillUnlockedShops_11 : decode cX6_fillUnlockedShops 11 = .ok (.iload_n 1, 1) := by decide +kernel
theorem dX6_fillUnlockedShops_12 : decode cX6_fillUnlockedShops 12 = .ok (.aaload, 1) := by decide +kernel
theorem dX6_fillUnlockedShops_13 : decode cX6_fillUnlockedShops 13 = .ok (.astore_n 2, 1) := by decide +kernel
theorem dX6_fillUnlockedShops_14 : decode cX6_fillUnlockedShops 14 = .ok (.aload_n 2, 1) := by decide +kernel
theorem dX6_fillUnlockedShops_15 : decode cX6_fillUnlockedShops 15 = .ok (.getfield 70, 3) := by decide +kernel
theorem dX6_fillUnlockedShops_18 : decode cX6_fillUnlockedShops 18 = .ok (.ifCond .ne 8, 3) := by decide +kernel
theorem dX6_fillUnlockedShops_21 : decode cX6_fillUnlockedShops 21 = .ok (.aload_n 0, 1) := by decide +kernel
theorem dX6_fillUnlockedShops_22 : decode cX6_fillUnlockedShops 22 = .ok (.aload_n 2, 1) := by decide +kernel
theorem dX6_fillUnlockedShops_23 : decode cX6_fillUnlockedShops 23 = .ok (.invokevirtual 66, 3) := by decide +kernel
theorem dX6_fillUnlockedShops_26 : decode cX6_fillUnlockedShops 26 = .ok (.aload_n 2, 1) := by decide +kernel
theorem dX6_fillUnlockedShops_27 : decode cX6_fillUnlockedShops 27 = .ok (.iconst 0, 1) := by decide +kernel
theorem dX6_fillUnlockedShops_28 : decode cX6_fillUnlockedShops 28 = .ok (.putfield 70, 3) := by decide +kernel
theorem dX6_fillUnlockedShops_31 : decode cX6_fillUnlockedShops 31 = .ok (.iinc 1 1, 3) := by decide +kernel
theorem dX6_fillUnlockedShops_34 : decode cX6_fillUnlockedShops 34 = .ok (.goto (-32), 3) := by decide +kernel
theorem dX6_fillUnlockedShops_37 : decode cX6_fillUnlockedShops 37 = .ok (.return_, 1) := by decide +kernel
theorem dX6_fillShop_0 : decode cX6_fillShop 0 = .ok (.iconst 0, 1) := by decide +kernel
theorem dX6_fillShop_1 : decode cX6_fillShop 1 = .ok (.istore_n 2, 1) := by decide +kernel
theorem dX6_fillShop_2 : decode cX6_fillShop 2 = .ok (.iload_n 2, 1) := by decide +kernel
theorem dX6_fillShop_3 : decode cX6_fillShop 3 = .ok (.iconst 3, 1) := by decide +kernel
theorem dX6_fillShop_4 : decode cX6_fillShop 4 = .ok (.if_icmp .ge 23, 3) := by decide +kernel
theorem dX6_fillShop_7 : decode cX6_fillShop 7 = .ok (.aload_n 0, 1) := by decide +kernel
theorem dX6_fillShop_8 : decode cX6_fillShop 8 = .ok (.getfield 18, 3) := by decide +kernel
theorem dX6_fillShop_11 : decode cX6_fillShop 11 = .ok (.aload_n 1, 1) := by decide +kernel
theorem dX6_fillShop_12 : decode cX6_fillShop 12 = .ok (.getfield 85, 3) := by decide +kernel
theorem dX6_fillShop_15 : decode cX6_fillShop 15 = .ok (.iload_n 2, 1) := by decide +kernel
theorem dX6_fillShop_16 : decode cX6_fillShop 16 = .ok (.iaload, 1) := by decide +kernel
theorem dX6_fillShop_17 : decode cX6_fillShop 17 = .ok (.iconst 1, 1) := by decide +kernel
theorem dX6_fillShop_18 : decode cX6_fillShop 18 = .ok (.invokevirtual 128, 3) := by decide +kernel
theorem dX6_fillShop_21 : decode cX6_fillShop 21 = .ok (.iinc 2 1, 3) := by decide +kernel
theorem dX6_fillShop_24 : decode cX6_fillShop 24 = .ok (.goto (-22), 3) := by decide +kernel
theorem dX6_fillShop_27 : decode cX6_fillShop 27 = .ok (.iconst 0, 1) := by decide +kernel
theorem dX6_fillShop_28 : decode cX6_fillShop 28 = .ok (.istore_n 2, 1) := by decide +kernel
theorem dX6_fillShop_29 : decode cX6_fillShop 29 = .ok (.iload_n 2, 1) := by decide +kernel
theorem dX6_fillShop_30 : decode cX6_fillShop 30 = .ok (.iconst 3, 1) := by decide +kernel
theorem dX6_fillShop_31 : decode cX6_fillShop 31 = .ok (.if_icmp .ge 35, 3) := by decide +kernel
theorem dX6_fillShop_34 : decode cX6_fillShop 34 = .ok (.aload_n 1, 1) := by decide +kernel
theorem dX6_fillShop_35 : decode cX6_fillShop 35 = .ok (.getfield 85, 3) := by decide +kernel
theorem dX6_fillShop_38 : decode cX6_fillShop 38 = .ok (.iload_n 2, 1) := by decide +kernel
theorem dX6_fillShop_39 : decode cX6_fillShop 39 = .ok (.aload_n 0, 1) := by decide +kernel
theorem dX6_fillShop_40 : decode cX6_fillShop 40 = .ok (.getfield 18, 3) := by decide +kernel
theorem dX6_fillShop_43 : decode cX6_fillShop 43 = .ok (.aload_n 0, 1) := by decide +kernel
theorem dX6_fillShop_44 : decode cX6_fillShop 44 = .ok (.getfield 25, 3) := by decide +kernel
theorem dX6_fillShop_47 : decode cX6_fillShop 47 = .ok (.invokevirtual 227, 3) := by decide +kernel
theorem dX6_fillShop_50 : decode cX6_fillShop 50 = .ok (.aload_n 1, 1) := by decide +kernel
theorem dX6_fillShop_51 : decode cX6_fillShop 51 = .ok (.getfield 76, 3) := by decide +kernel
theorem dX6_fillShop_54 : decode cX6_fillShop 54 = .ok (.iconst 1, 1) := by decide +kernel
theorem dX6_fillShop_55 : decode cX6_fillShop 55 = .ok (.iadd, 1) := by decide +kernel
theorem dX6_fillShop_56 : decode cX6_fillShop 56 = .ok (.invokevirtual 230, 3) := by decide +kernel
theorem dX6_fillShop_59 : decode cX6_fillShop 59 = .ok (.iastore, 1) := by decide +kernel
theorem dX6_fillShop_60 : decode cX6_fillShop 60 = .ok (.iinc 2 1, 3) := by decide +kernel
theorem dX6_fillShop_63 : decode cX6_fillShop 63 = .ok (.goto (-34), 3) := by decide +kernel
theorem dX6_fillShop_66 : decode cX6_fillShop 66 = .ok (.return_, 1) := by decide +kernel
theorem dX6_playersWithHealth_0 : decode cX6_playersWithHealth 0 = .ok (.iconst 0, 1) := by decide +kernel
theorem dX6_playersWithHealth_1 : decode cX6_playersWithHealth 1 = .ok (.istore_n 1, 1) := by decide +kernel
theorem dX6_playersWithHealth_2 : decode cX6_playersWithHealth 2 = .ok (.iconst 0, 1) := by decide +kernel
theorem dX6_playersWithHealth_3 : decode cX6_playersWithHealth 3 = .ok (.istore_n 2, 1) := by decide +kernel
theorem dX6_playersWithHealth_4 : decode cX6_playersWithHealth 4 = .ok (.iload_n 2, 1) := by decide +kernel
theorem dX6_playersWithHealth_5 : decode cX6_playersWithHealth 5 = .ok (.iconst 4, 1) := by decide +kernel
theorem dX6_playersWithHealth_6 : decode cX6_playersWithHealth 6 = .ok (.if_icmp .ge 24, 3) := by decide +kernel
theorem dX6_playersWithHealth_9 : decode cX6_playersWithHealth 9 = .ok (.aload_n 0, 1) := by decide +kernel
theorem dX6_playersWithHealth_10 : decode cX6_playersWithHealth 10 = .ok (.getfield 11, 3) := by decide +kernel
theorem dX6_playersWithHealth_13 : decode cX6_playersWithHealth 13 = .ok (.iload_n 2, 1) := by decide +kernel
theorem dX6_playersWithHealth_14 : decode cX6_playersWithHealth 14 = .ok (.aaload, 1) := by decide +kernel
theorem dX6_playersWithHealth_15 : decode cX6_playersWithHealth 15 = .ok (.getfield 176, 3) := by decide +kernel
theorem dX6_playersWithHealth_18 : decode cX6_playersWithHealth 18 = .ok (.ifCond .le 6, 3) := by decide +kernel
theorem dX6_playersWithHealth_21 : decode cX6_playersWithHealth 21 = .ok (.iinc 1 1, 3) := by decide +kernel
theorem dX6_playersWithHealth_24 : decode cX6_playersWithHealth 24 = .ok (.iinc 2 1, 3) := by decide +kernel
theorem dX6_playersWithHealth_27 : decode cX6_playersWithHealth 27 = .ok (.goto (-23), 3) := by decide +kernel
theorem dX6_playersWithHealth_30 : decode cX6_playersWithHealth 30 = .ok (.iload_n 1, 1) := by decide +kernel
theorem dX6_playersWithHealth_31 : decode cX6_playersWithHealth 31 = .ok (.ireturn, 1) := by decide +kernel
theorem dX6_costOf_0 : decode cX6_costOf 0 = .ok (.iload_n 0, 1) := by decide +kernel
theorem dX6_costOf_1 : decode cX6_costOf 1 = .ok (.iconst 3, 1) := by decide +kernel
theorem dX6_costOf_2 : decode cX6_costOf 2 = .ok (.idiv, 1) := by decide +kernel
theorem dX6_costOf_3 : decode cX6_costOf 3 = .ok (.iconst 1, 1) := by decide +kernel
theorem dX6_costOf_4 : decode cX6_costOf 4 = .ok (.iadd, 1) := by decide +kernel
theorem dX6_costOf_5 : decode cX6_costOf 5 = .ok (.ireturn, 1) := by decide +kernel
theorem dX6_unitsFor_0 : decode cX6_unitsFor 0 = .ok (.iload_n 0, 1) := by decide +kernel
theorem dX6_unitsFor_1 : decode cX6_unitsFor 1 = .ok (.iconst 1, 1) := by decide +kernel
theorem dX6_unitsFor_2 : decode cX6_unitsFor 2 = .ok (.if_icmp .ne 5, 3) := by decide +kernel
theorem dX6_unitsFor_5 : decode cX6_unitsFor 5 = .ok (.iconst 1, 1) := by decide +kernel
theorem dX6_unitsFor_6 : decode cX6_unitsFor 6 = .ok (.ireturn, 1) := by decide +kernel
theorem dX6_unitsFor_7 : decode cX6_unitsFor 7 = .ok (.iload_n 0, 1) := by decide +kernel
theorem dX6_unitsFor_8 : decode cX6_unitsFor 8 = .ok (.iconst 2, 1) := by decide +kernel
theorem dX6_unitsFor_9 : decode cX6_unitsFor 9 = .ok (.if_icmp .ne 7, 3) := by decide +kernel
theorem dX6_unitsFor_12 : decode cX6_unitsFor 12 = .ok (.iconst 3, 1) := by decide +kernel
theorem dX6_unitsFor_13 : decode cX6_unitsFor 13 = .ok (.goto 5, 3) := by decide +kernel
theorem dX6_unitsFor_16 : decode cX6_unitsFor 16 = .ok (.bipush 9, 2) := by decide +kernel
theorem dX6_unitsFor_18 : decode cX6_unitsFor 18 = .ok (.ireturn, 1) := by decide +kernel
theorem dX7_init_0 : decode cX7_init 0 = .ok (.aload_n 0, 1) := by decide +kernel
theorem dX7_init_1 : decode cX7_init 1 = .ok (.invokespecial 1, 3) := by decide +kernel
theorem dX7_init_4 : decode cX7_init 4 = .ok (.aload_n 0, 1) := by decide +kernel
theorem dX7_init_5 : decode cX7_init 5 = .ok (.bipush 100, 2) := by decide +kernel
theorem dX7_init_7 : decode cX7_init 7 = .ok (.newarray .int, 2) := by decide +kernel
theorem dX7_init_9 : decode cX7_init 9 = .ok (.putfield 7, 3) := by decide +kernel
theorem dX7_init_12 : decode cX7_init 12 = .ok (.aload_n 0, 1) := by decide +kernel
theorem dX7_init_13 : decode cX7_init 13 = .ok (.bipush 9, 2) := by decide +kernel
theorem dX7_init_15 : decode cX7_init 15 = .ok (.newarray .int, 2) := by decide +kernel
theorem dX7_init_17 : decode cX7_init 17 = .ok (.putfield 13, 3) := by decide +kernel
theorem dX7_init_20 : decode cX7_init 20 = .ok (.aload_n 0, 1) := by decide +kernel
theorem dX7_init_21 : decode cX7_init 21 = .ok (.iconst 4, 1) := by decide +kernel
theorem dX7_init_22 : decode cX7_init 22 = .ok (.newarray .int, 2) := by decide +kernel
theorem dX7_init_24 : decode cX7_init 24 = .ok (.putfield 16, 3) := by decide +kernel
theorem dX7_init_27 : decode cX7_init 27 = .ok (.aload_n 0, 1) := by decide +kernel
theorem dX7_init_28 : decode cX7_init 28 = .ok (.iconst 4, 1) := by decide +kernel
theorem dX7_init_29 : decode cX7_init 29 = .ok (.newarray .int, 2) := by decide +kernel
theorem dX7_init_31 : decode cX7_init 31 = .ok (.putfield 19, 3) := by decide +kernel
theorem dX7_init_34 : decode cX7_init 34 = .ok (.aload_n 0, 1) := by decide +kernel
theorem dX7_init_35 : decode cX7_init 35 = .ok (.iconst 4, 1) := by decide +kernel
theorem dX7_init_36 : decode cX7_init 36 = .ok (.newarray .int, 2) := by decide +kernel
theorem dX7_init_38 : decode cX7_init 38 = .ok (.putfield 22, 3) := by decide +kernel
theorem dX7_init_41 : decode cX7_init 41 = .ok (.aload_n 0, 1) := by decide +kernel
theorem dX7_init_42 : decode cX7_init 42 = .ok (.iconst 4, 1) := by decide +kernel
theorem dX7_init_43 : decode cX7_init 43 = .ok (.newarray .int, 2) := by decide +kernel
theorem dX7_init_45 : decode cX7_init 45 = .ok (.putfield 25, 3) := by decide +kernel
theorem dX7_init_48 : decode cX7_init 48 = .ok (.aload_n 0, 1) := by decide +kernel
theorem dX7_init_49 : decode cX7_init 49 = .ok (.bipush 12, 2) := by decide +kernel
theorem dX7_init_51 : decode cX7_init 51 = .ok (.newarray .int, 2) := by decide +kernel
theorem dX7_init_53 : decode cX7_init 53 = .ok (.putfield 28, 3) := by decide +kernel
theorem dX7_init_56 : decode cX7_init 56 = .ok (.aload_n 0, 1) := by decide +kernel
theorem dX7_init_57 : decode cX7_init 57 = .ok (.iconst 4, 1) := by decide +kernel
theorem dX7_init_58 : decode cX7_init 58 = .ok (.newarray .boolean, 2) := by decide +kernel
theorem dX7_init_60 : decode cX7_init 60 = .ok (.putfield 31, 3) := by decide +kernel
theorem dX7_init_63 : decode cX7_init 63 = .ok (.aload_n 0, 1) := by decide +kernel
theorem dX7_init_64 : decode cX7_init 64 = .ok (.iconst 4, 1) := by decide +kernel
theorem dX7_init_65 : decode cX7_init 65 = .ok (.newarray .int, 2) := by decide +kernel
theorem dX7_init_67 : decode cX7_init 67 = .ok (.putfield 35, 3) := by decide +kernel
theorem dX7_init_70 : decode cX7_init 70 = .ok (.aload_n 0, 1) := by decide +kernel
theorem dX7_init_71 : decode cX7_init 71 = .ok (.bipush 24, 2) := by decide +kernel
theorem dX7_init_73 : decode cX7_init 73 = .ok (.newarray .int, 2) := by decide +kernel
theorem dX7_init_75 : decode cX7_init 75 = .ok (.putfield 38, 3) := by decide +kernel
theorem dX7_init_78 : decode cX7_init 78 = .ok (.aload_n 0, 1) := by decide +kernel
theorem dX7_init_79 : decode cX7_init 79 = .ok (.iconst 4, 1) := by decide +kernel
theorem dX7_init_80 : decode cX7_init 80 = .ok (.newarray .int, 2) := by decide +kernel
theorem dX7_init_82 : decode cX7_init 82 = .ok (.putfield 41, 3) := by decide +kernel
theorem dX7_init_85 : decode cX7_init 85 = .ok (.aload_n 0, 1) := by decide +kernel
theorem dX7_init_86 : decode cX7_init 86 = .ok (.bipush 20, 2) := by decide +kernel
theorem dX7_init_88 : decode cX7_init 88 = .ok (.newarray .int, 2) := by decide +kernel
theorem dX7_init_90 : decode cX7_init 90 = .ok (.putfield 44, 3) := by decide +kernel
theorem dX7_init_93 : decode cX7_init 93 = .ok (.aload_n 0, 1) := by decide +kernel
theorem dX7_init_94 : decode cX7_init 94 = .ok (.iconst 2, 1) := by decide +kernel
theorem dX7_init_95 : decode cX7_init 95 = .ok (.newarray .int, 2) := by decide +kernel
theorem dX7_init_97 : decode cX7_init 97 = .ok (.putfield 47, 3) := by decide +kernel
theorem dX7_init_100 : decode cX7_init 100 = .ok (.aload_n 0, 1) := by decide +kernel
theorem dX7_init_101 : decode cX7_init 101 = .ok (.iconst 2, 1) := by decide +kernel
theorem dX7_init_102 : decode cX7_init 102 = .ok (.newarray .int, 2) := by decide +kernel
theorem dX7_init_104 : decode cX7_init 104 = .ok (.putfield 50, 3) := by decide +kernel
theorem dX7_init_107 : decode cX7_init 107 = .ok (.aload_n 0, 1) := by decide +kernel
theorem dX7_init_108 : decode cX7_init 108 = .ok (.bipush 10, 2) := by decide +kernel
theorem dX7_init_110 : decode cX7_init 110 = .ok (.newarray .int, 2) := by decide +kernel
theorem dX7_init_112 : decode cX7_init 112 = .ok (.putfield 53, 3) := by decide +kernel
theorem dX7_init_115 : decode cX7_init 115 = .ok (.iconst 0, 1) := by decide +kernel
theorem dX7_init_116 : decode cX7_init 116 = .ok (.istore_n 1, 1) := by decide +kernel
theorem dX7_init_117 : decode cX7_init 117 = .ok (.iload_n 1, 1) := by decide +kernel
theorem dX7_init_118 : decode cX7_init 118 = .ok (.bipush 9, 2) := by decide +kernel
theorem dX7_init_120 : decode cX7_init 120 = .ok (.if_icmp .ge 17, 3) := by decide +kernel
theorem dX7_init_123 : decode cX7_init 123 = .ok (.aload_n 0, 1) := by decide +kernel
theorem dX7_init_124 : decode cX7_init 124 = .ok (.getfield 13, 3) := by decide +kernel
theorem dX7_init_127 : decode cX7_init 127 = .ok (.iload_n 1, 1) := by decide +kernel
theorem dX7_init_128 : decode cX7_init 128 = .ok (.bipush 9, 2) := by decide +kernel
theorem dX7_init_130 : decode cX7_init 130 = .ok (.iastore, 1) := by decide +kernel
theorem dX7_init_131 : decode cX7_init 131 = .ok (.iinc 1 1, 3) := by decide +kernel
theorem dX7_init_134 : decode cX7_init 134 = .ok (.goto (-17), 3) := by decide +kernel
theorem dX7_init_137 : decode cX7_init 137 = .ok (.iconst 0, 1) := by decide +kernel
theorem dX7_init_138 : decode cX7_init 138 = .ok (.istore_n 1, 1) := by decide +kernel
theorem dX7_init_139 : decode cX7_init 139 = .ok (.iload_n 1, 1) := by decide +kernel
theorem dX7_init_140 : decode cX7_init 140 = .ok (.iconst 4, 1) := by decide +kernel
theorem dX7_init_141 : decode cX7_init 141 = .ok (.if_icmp .ge 32, 3) := by decide +kernel
theorem dX7_init_144 : decode cX7_init 144 = .ok (.aload_n 0, 1) := by decide +kernel
theorem dX7_init_145 : decode cX7_init 145 = .ok (.getfield 16, 3) := by decide +kernel
theorem dX7_init_148 : decode cX7_init 148 = .ok (.iload_n 1, 1) := by decide +kernel
theorem dX7_init_149 : decode cX7_init 149 = .ok (.bipush 10, 2) := by decide +kernel
theorem dX7_init_151 : decode cX7_init 151 = .ok (.iastore, 1) := by decide +kernel
theorem dX7_init_152 : decode cX7_init 152 = .ok (.aload_n 0, 1) := by decide +kernel
theorem dX7_init_153 : decode cX7_init 153 = .ok (.getfield 19, 3) := by decide +kernel
theorem dX7_init_156 : decode cX7_init 156 = .ok (.iload_n 1, 1) := by decide +kernel
theorem dX7_init_157 : decode cX7_init 157 = .ok (.iconst 1, 1) := by decide +kernel
theorem dX7_init_158 : decode cX7_init 158 = .ok (.iastore, 1) := by decide +kernel
theorem dX7_init_159 : decode cX7_init 159 = .ok (.aload_n 0, 1) := by decide +kernel
theorem dX7_init_160 : decode cX7_init 160 = .ok (.getfield 22, 3) := by decide +kernel
theorem dX7_init_163 : decode cX7_init 163 = .ok (.iload_n 1, 1) := by decide +kernel
theorem dX7_init_164 : decode cX7_init 164 = .ok (.bipush 20, 2) := by decide +kernel
theorem dX7_init_166 : decode cX7_init 166 = .ok (.iastore, 1) := by decide +kernel
theorem dX7_init_167 : decode cX7_init 167 = .ok (.iinc 1 1, 3) := by decide +kernel
theorem dX7_init_170 : decode cX7_init 170 = .ok (.goto (-31), 3) := by decide +kernel
theorem dX7_init_173 : decode cX7_init 173 = .ok (.iconst 0, 1) := by decide +kernel
theorem dX7_init_174 : decode cX7_init 174 = .ok (.istore_n 1, 1) := by decide +kernel
theorem dX7_init_175 : decode cX7_init 175 = .ok (.iload_n 1, 1) := by decide +kernel
theorem dX7_init_176 : decode cX7_init 176 = .ok (.bipush 12, 2) := by decide +kernel
theorem dX7_init_178 : decode cX7_init 178 = .ok (.if_icmp .ge 16, 3) := by decide +kernel
theorem dX7_init_181 : decode cX7_init 181 = .ok (.aload_n 0, 1) := by decide +kernel
theorem dX7_init_182 : decode cX7_init 182 = .ok (.getfield 28, 3) := by decide +kernel
theorem dX7_init_185 : decode cX7_init 185 = .ok (.iload_n 1, 1) := by decide +kernel
theorem dX7_init_186 : decode cX7_init 186 = .ok (.iconst (-1), 1) := by decide +kernel
theorem dX7_init_187 : decode cX7_init 187 = .ok (.iastore, 1) := by decide +kernel
theorem dX7_init_188 : decode cX7_init 188 = .ok (.iinc 1 1, 3) := by decide +kernel
theorem dX7_init_191 : decode cX7_init 191 = .ok (.goto (-16), 3) := by decide +kernel
theorem dX7_init_194 : decode cX7_init 194 = .ok (.return_, 1) := by decide +kernel
theorem dX7_thrown_0 : decode cX7_thrown 0 = .ok (.aload_n 0, 1) := by decide +kernel
theorem dX7_thrown_1 : decode cX7_thrown 1 = .ok (.getfield 56, 3) := by decide +kernel
theorem dX7_thrown_4 : decode cX7_thrown 4 = .ok (.ireturn, 1) := by decide +kernel
theorem dX7_holds_0 : decode cX7_holds 0 = .ok (.aload_n 0, 1) := by decide +kernel
theorem dX7_holds_1 : decode cX7_holds 1 = .ok (.iload_n 1, 1) := by decide +kernel
theorem dX7_holds_2 : decode cX7_holds 2 = .ok (.putfield 56, 3) := by decide +kernel
theorem dX7_holds_5 : decode cX7_holds 5 = .ok (.iload_n 1, 1) := by decide +kernel
theorem dX7_holds_6 : decode cX7_holds 6 = .ok (.ifCond .ne 7, 3) := by decide +kernel
theorem dX7_holds_9 : decode cX7_holds 9 = .ok (.iconst 1, 1) := by decide +kernel
theorem dX7_holds_10 : decode cX7_holds 10 = .ok (.goto 4, 3) := by decide +kernel
theorem dX7_holds_13 : decode cX7_holds 13 = .ok (.iconst 0, 1) := by decide +kernel
theorem dX7_holds_14 : decode cX7_holds 14 = .ok (.ireturn, 1) := by decide +kernel
theorem dX7_in_0 : decode cX7_in 0 = .ok (.iload_n 0, 1) := by decide +kernel
theorem dX7_in_1 : decode cX7_in 1 = .ok (.iload_n 1, 1) := by decide +kernel
theorem dX7_in_2 : decode cX7_in 2 = .ok (.if_icmp .lt 12, 3) := by decide +kernel
theorem dX7_in_5 : decode cX7_in 5 = .ok (.iload_n 0, 1) := by decide +kernel
theorem dX7_in_6 : decode cX7_in 6 = .ok (.iload_n 2, 1) := by decide +kernel
theorem dX7_in_7 : decode cX7_in 7 = .ok (.if_icmp .gt 7, 3) := by decide +kernel
theorem dX7_in_10 : decode cX7_in 10 = .ok (.iconst 1, 1) := by decide +kernel
theorem dX7_in_11 : decode cX7_in 11 = .ok (.goto 4, 3) := by decide +kernel
theorem dX7_in_14 : decode cX7_in 14 = .ok (.iconst 0, 1) := by decide +kernel
theorem dX7_in_15 : decode cX7_in 15 = .ok (.ireturn, 1) := by decide +kernel
theorem dX7_isPlayer_0 : decode cX7_isPlayer 0 = .ok (.iload_n 0, 1) := by decide +kernel
theorem dX7_isPlayer_1 : decode cX7_isPlayer 1 = .ok (.iconst 0, 1) := by decide +kernel
theorem dX7_isPlayer_2 : decode cX7_isPlayer 2 = .ok (.iconst 3, 1) := by decide +kernel
theorem dX7_isPlayer_3 : decode cX7_isPlayer 3 = .ok (.invokestatic 60, 3) := by decide +kernel
theorem dX7_isPlayer_6 : decode cX7_isPlayer 6 = .ok (.ireturn, 1) := by decide +kernel
theorem dX7_isSlot_0 : decode cX7_isSlot 0 = .ok (.iload_n 0, 1) := by decide +kernel
theorem dX7_isSlot_1 : decode cX7_isSlot 1 = .ok (.invokestatic 64, 3) := by decide +kernel
theorem dX7_isSlot_4 : decode cX7_isSlot 4 = .ok (.ifCond .eq 16, 3) := by decide +kernel
theorem dX7_isSlot_7 : decode cX7_isSlot 7 = .ok (.iload_n 1, 1) := by decide +kernel
theorem dX7_isSlot_8 : decode cX7_isSlot 8 = .ok (.iconst 0, 1) := by decide +kernel
theorem dX7_isSlot_9 : decode cX7_isSlot 9 = .ok (.iconst 2, 1) := by decide +kernel
theorem dX7_isSlot_10 : decode cX7_isSlot 10 = .ok (.invokestatic 60, 3) := by decide +kernel
theorem dX7_isSlot_13 : decode cX7_isSlot 13 = .ok (.ifCond .eq 7, 3) := by decide +kernel
theorem dX7_isSlot_16 : decode cX7_isSlot 16 = .ok (.iconst 1, 1) := by decide +kernel
theorem dX7_isSlot_17 : decode cX7_isSlot 17 = .ok (.goto 4, 3) := by decide +kernel
theorem dX7_isSlot_20 : decode cX7_isSlot 20 = .ok (.iconst 0, 1) := by decide +kernel
theorem dX7_isSlot_21 : decode cX7_isSlot 21 = .ok (.ireturn, 1) := by decide +kernel
theorem dX7_cost_0 : decode cX7_cost 0 = .ok (.iload_n 0, 1) := by decide +kernel
theorem dX7_cost_1 : decode cX7_cost 1 = .ok (.iconst 3, 1) := by decide +kernel
theorem dX7_cost_2 : decode cX7_cost 2 = .ok (.idiv, 1) := by decide +kernel
theorem dX7_cost_3 : decode cX7_cost 3 = .ok (.iconst 1, 1) := by decide +kernel
theorem dX7_cost_4 : decode cX7_cost 4 = .ok (.iadd, 1) := by decide +kernel
theorem dX7_cost_5 : decode cX7_cost 5 = .ok (.ireturn, 1) := by decide +kernel
theorem dX7_worth_0 : decode cX7_worth 0 = .ok (.iload_n 0, 1) := by decide +kernel
theorem dX7_worth_1 : decode cX7_worth 1 = .ok (.iconst 1, 1) := by decide +kernel
theorem dX7_worth_2 : decode cX7_worth 2 = .ok (.if_icmp .ne 7, 3) := by decide +kernel
theorem dX7_worth_5 : decode cX7_worth 5 = .ok (.iconst 1, 1) := by decide +kernel
theorem dX7_worth_6 : decode cX7_worth 6 = .ok (.goto 14, 3) := by decide +kernel
theorem dX7_worth_9 : decode cX7_worth 9 = .ok (.iload_n 0, 1) := by decide +kernel
theorem dX7_worth_10 : decode cX7_worth 10 = .ok (.iconst 2, 1) := by decide +kernel
theorem dX7_worth_11 : decode cX7_worth 11 = .ok (.if_icmp .ne 7, 3) := by decide +kernel
theorem dX7_worth_14 : decode cX7_worth 14 = .ok (.iconst 3, 1) := by decide +kernel
theorem dX7_worth_15 : decode cX7_worth 15 = .ok (.goto 5, 3) := by decide +kernel
theorem dX7_worth_18 : decode cX7_worth 18 = .ok (.bipush 9, 2) := by decide +kernel
theorem dX7_worth_20 : decode cX7_worth 20 = .ok (.ireturn, 1) := by decide +kernel
theorem dX7_least_0 : decode cX7_least 0 = .ok (.iload_n 0, 1) := by decide +kernel
theorem dX7_least_1 : decode cX7_least 1 = .ok (.iload_n 1, 1) := by decide +kernel
theorem dX7_least_2 : decode cX7_least 2 = .ok (.if_icmp .ge 7, 3) := by decide +kernel
theorem dX7_least_5 : decode cX7_least 5 = .ok (.iload_n 0, 1) := by decide +kernel
theorem dX7_least_6 : decode cX7_least 6 = .ok (.goto 4, 3) := by decide +kernel
theorem dX7_least_9 : decode cX7_least 9 = .ok (.iload_n 1, 1) := by decide +kernel
theorem dX7_least_10 : decode cX7_least 10 = .ok (.ireturn, 1) := by decide +kernel
theorem dX7_tell_0 : decode cX7_tell 0 = .ok (.aload_n 0, 1) := by decide +kernel
theorem dX7_tell_1 : decode cX7_tell 1 = .ok (.iload_n 1, 1) := by decide +kernel
theorem dX7_tell_2 : decode cX7_tell 2 = .ok (.iconst 0, 1) := by decide +kernel
theorem dX7_tell_3 : decode cX7_tell 3 = .ok (.sipush 1000, 3) := by decide +kernel
theorem dX7_tell_6 : decode cX7_tell 6 = .ok (.invokestatic 60, 3) := by decide +kernel
theorem dX7_tell_9 : decode cX7_tell 9 = .ok (.ifCond .ne 7, 3) := by decide +kernel
theorem dX7_tell_12 : decode cX7_tell 12 = .ok (.iconst 1, 1) := by decide +kernel
theorem dX7_tell_13 : decode cX7_tell 13 = .ok (.goto 17, 3) := by decide +kernel
theorem dX7_tell_16 : decode cX7_tell 16 = .ok (.aload_n 0, 1) := by decide +kernel
theorem dX7_tell_17 : decode cX7_tell 17 = .ok (.getfield 68, 3) := by decide +kernel
theorem dX7_tell_20 : decode cX7_tell 20 = .ok (.bipush 100, 2) := by decide +kernel
theorem dX7_tell_22 : decode cX7_tell 22 = .ok (.if_icmp .ne 7, 3) := by decide +kernel
theorem dX7_tell_25 : decode cX7_tell 25 = .ok (.iconst 2, 1) := by decide +kernel
theorem dX7_tell_26 : decode cX7_tell 26 = .ok (.goto 4, 3) := by decide +kernel
theorem dX7_tell_29 : decode cX7_tell 29 = .ok (.iconst 0, 1) := by decide +kernel
theorem dX7_tell_30 : decode cX7_tell 30 = .ok (.invokevirtual 71, 3) := by decide +kernel
theorem dX7_tell_33 : decode cX7_tell 33 = .ok (.ifCond .ne 5, 3) := by decide +kernel
theorem dX7_tell_36 : decode cX7_tell 36 = .ok (.iconst 0, 1) := by decide +kernel
theorem dX7_tell_37 : decode cX7_tell 37 = .ok (.ireturn, 1) := by decide +kernel
theorem dX7_tell_38 : decode cX7_tell 38 = .ok (.aload_n 0, 1) := by decide +kernel
theorem dX7_tell_39 : decode cX7_tell 39 = .ok (.getfield 7, 3) := by decide +kernel
theorem dX7_tell_42 : decode cX7_tell 42 = .ok (.aload_n 0, 1) := by decide +kernel
theorem dX7_tell_43 : decode cX7_tell 43 = .ok (.getfield 74, 3) := by decide +kernel
theorem dX7_tell_46 : decode cX7_tell 46 = .ok (.aload_n 0, 1) := by decide +kernel
theorem dX7_tell_47 : decode cX7_tell 47 = .ok (.getfield 68, 3) := by decide +kernel
theorem dX7_tell_50 : decode cX7_tell 50 = .ok (.iadd, 1) := by decide +kernel
theorem dX7_tell_51 : decode cX7_tell 51 = .ok (.bipush 100, 2) := by decide +kernel
theorem dX7_tell_53 : decode cX7_tell 53 = .ok (.irem, 1) := by decide +kernel
theorem dX7_tell_54 : decode cX7_tell 54 = .ok (.iload_n 1, 1) := by decide +kernel
theorem dX7_tell_55 : decode cX7_tell 55 = .ok (.iastore, 1) := by decide +kernel
theorem dX7_tell_56 : decode cX7_tell 56 = .ok (.aload_n 0, 1) := by decide +kernel
theorem dX7_tell_57 : decode cX7_tell 57 = .ok (.dup, 1) := by decide +kernel
theorem dX7_tell_58 : decode cX7_tell 58 = .ok (.getfield 68, 3) := by decide +kernel
theorem dX7_tell_61 : decode cX7_tell 61 = .ok (.iconst 1, 1) := by decide +kernel
theorem dX7_tell_62 : decode cX7_tell 62 = .ok (.iadd, 1) := by decide +kernel
theorem dX7_tell_63 : decode cX7_tell 63 = .ok (.putfield 68, 3) := by decide +kernel
theorem dX7_tell_66 : decode cX7_tell 66 = .ok (.aload_n 0, 1) := by decide +kernel
theorem dX7_tell_67 : decode cX7_tell 67 = .ok (.getfield 68, 3) := by decide +kernel
theorem dX7_tell_70 : decode cX7_tell 70 = .ok (.ireturn, 1) := by decide +kernel
theorem dX7_next_0 : decode cX7_next 0 = .ok (.aload_n 0, 1) := by decide +kernel
theorem dX7_next_1 : decode cX7_next 1 = .ok (.getfield 68, 3) := by decide +kernel
theorem dX7_next_4 : decode cX7_next 4 = .ok (.ifCond .ne 5, 3) := by decide +kernel
theorem dX7_next_7 : decode cX7_next 7 = .ok (.iconst 0, 1) := by decide +kernel
theorem dX7_next_8 : decode cX7_next 8 = .ok (.ireturn, 1) := by decide +kernel
theorem dX7_next_9 : decode cX7_next 9 = .ok (.aload_n 0, 1) := by decide +kernel
theorem dX7_next_10 : decode cX7_next 10 = .ok (.getfield 7, 3) := by decide +kernel
theorem dX7_next_13 : decode cX7_next 13 = .ok (.aload_n 0, 1) := by decide +kernel
theorem dX7_next_14 : decode cX7_next 14 = .ok (.getfield 74, 3) := by decide +kernel
theorem dX7_next_17 : decode cX7_next 17 = .ok (.iaload, 1) := by decide +kernel
theorem dX7_next_18 : decode cX7_next 18 = .ok (.istore_n 1, 1) := by decide +kernel
theorem dX7_next_19 : decode cX7_next 19 = .ok (.aload_n 0, 1) := by decide +kernel
theorem dX7_next_20 : decode cX7_next 20 = .ok (.aload_n 0, 1) := by decide +kernel
theorem dX7_next_21 : decode cX7_next 21 = .ok (.getfield 74, 3) := by decide +kernel
theorem dX7_next_24 : decode cX7_next 24 = .ok (.iconst 1, 1) := by decide +kernel
theorem dX7_next_25 : decode cX7_next 25 = .ok (.iadd, 1) := by decide +kernel
theorem dX7_next_26 : decode cX7_next 26 = .ok (.bipush 100, 2) := by decide +kernel
theorem dX7_next_28 : decode cX7_next 28 = .ok (.irem, 1) := by decide +kernel
theorem dX7_next_29 : decode cX7_next 29 = .ok (.putfield 74, 3) := by decide +kernel
theorem dX7_next_32 : decode cX7_next 32 = .ok (.aload_n 0, 1) := by decide +kernel
theorem dX7_next_33 : decode cX7_next 33 = .ok (.dup, 1) := by decide +kernel
theorem dX7_next_34 : decode cX7_next 34 = .ok (.getfield 68, 3) := by decide +kernel
theorem dX7_next_37 : decode cX7_next 37 = .ok (.iconst 1, 1) := by decide +kernel
theorem dX7_next_38 : decode cX7_next 38 = .ok (.isub, 1) := by decide +kernel
theorem dX7_next_39 : decode cX7_next 39 = .ok (.putfield 68, 3) := by decide +kernel
theorem dX7_next_42 : decode cX7_next 42 = .ok (.iload_n 1, 1) := by decide +kernel
theorem dX7_next_43 : decode cX7_next 43 = .ok (.ireturn, 1) := by decide +kernel
theorem dX7_fillsSlot_0 : decode cX7_fillsSlot 0 = .ok (.aload_n 0, 1) := by decide +kernel
theorem dX7_fillsSlot_1 : decode cX7_fillsSlot 1 = .ok (.invokevirtual 77, 3) := by decide +kernel
theorem dX7_fillsSlot_4 : decode cX7_fillsSlot 4 = .ok (.istore_n 3, 1) := by decide +kernel
theorem dX7_fillsSlot_5 : decode cX7_fillsSlot 5 = .ok (.iconst 0, 1) := by decide +kernel
theorem dX7_fillsSlot_6 : decode cX7_fillsSlot 6 = .ok (.istore 4, 2) := by decide +kernel
theorem dX7_fillsSlot_8 : decode cX7_fillsSlot 8 = .ok (.iconst 0, 1) := by decide +kernel
theorem dX7_fillsSlot_9 : decode cX7_fillsSlot 9 = .ok (.istore 5, 2) := by decide +kernel
theorem dX7_fillsSlot_11 : decode cX7_fillsSlot 11 = .ok (.iload 5, 2) := by decide +kernel
theorem dX7_fillsSlot_13 : decode cX7_fillsSlot 13 = .ok (.bipush 9, 2) := by decide +kernel
theorem dX7_fillsSlot_15 : decode cX7_fillsSlot 15 = .ok (.if_icmp .ge 41, 3) := by decide +kernel
theorem dX7_fillsSlot_18 : decode cX7_fillsSlot 18 = .ok (.iload 4, 2) := by decide +kernel
theorem dX7_fillsSlot_20 : decode cX7_fillsSlot 20 = .ok (.iload 5, 2) := by decide +kernel
theorem dX7_fillsSlot_22 : decode cX7_fillsSlot 22 = .ok (.invokestatic 81, 3) := by decide +kernel
theorem dX7_fillsSlot_25 : decode cX7_fillsSlot 25 = .ok (.aload_n 0, 1) := by decide +kernel
theorem dX7_fillsSlot_26 : decode cX7_fillsSlot 26 = .ok (.getfield 19, 3) := by decide +kernel
theorem dX7_fillsSlot_29 : decode cX7_fillsSlot 29 = .ok (.iload_n 1, 1) := by decide +kernel
theorem dX7_fillsSlot_30 : decode cX7_fillsSlot 30 = .ok (.iaload, 1) := by decide +kernel
theorem dX7_fillsSlot_31 : decode cX7_fillsSlot 31 = .ok (.iconst 1, 1) := by decide +kernel
theorem dX7_fillsSlot_32 : decode cX7_fillsSlot 32 = .ok (.iadd, 1) := by decide +kernel
theorem dX7_fillsSlot_33 : decode cX7_fillsSlot 33 = .ok (.if_icmp .gt 13, 3) := by decide +kernel
theorem dX7_fillsSlot_36 : decode cX7_fillsSlot 36 = .ok (.aload_n 0, 1) := by decide +kernel
theorem dX7_fillsSlot_37 : decode cX7_fillsSlot 37 = .ok (.getfield 13, 3) := by decide +kernel
theorem dX7_fillsSlot_40 : decode cX7_fillsSlot 40 = .ok (.iload 5, 2) := by decide +kernel
theorem dX7_fillsSlot_42 : decode cX7_fillsSlot 42 = .ok (.iaload, 1) := by decide +kernel
theorem dX7_fillsSlot_43 : decode cX7_fillsSlot 43 = .ok (.goto 4, 3) := by decide +kernel
theorem dX7_fillsSlot_46 : decode cX7_fillsSlot 46 = .ok (.iconst 0, 1) := by decide +kernel
theorem dX7_fillsSlot_47 : decode cX7_fillsSlot 47 = .ok (.iadd, 1) := by decide +kernel
theorem dX7_fillsSlot_48 : decode cX7_fillsSlot 48 = .ok (.istore 4, 2) := by decide +kernel
theorem dX7_fillsSlot_50 : decode cX7_fillsSlot 50 = .ok (.iinc 5 1, 3) := by decide +kernel
theorem dX7_fillsSlot_53 : decode cX7_fillsSlot 53 = .ok (.goto (-42), 3) := by decide +kernel
theorem dX7_fillsSlot_56 : decode cX7_fillsSlot 56 = .ok (.iload 4, 2) := by decide +kernel
theorem dX7_fillsSlot_58 : decode cX7_fillsSlot 58 = .ok (.ifCond .le 65, 3) := by decide +kernel
theorem dX7_fillsSlot_61 : decode cX7_fillsSlot 61 = .ok (.iload_n 3, 1) := by decide +kernel
theorem dX7_fillsSlot_62 : decode cX7_fillsSlot 62 = .ok (.iload 4, 2) := by decide +kernel
theorem dX7_fillsSlot_64 : decode cX7_fillsSlot 64 = .ok (.irem, 1) := by decide +kernel
theorem dX7_fillsSlot_65 : decode cX7_fillsSlot 65 = .ok (.istore 5, 2) := by decide +kernel
theorem dX7_fillsSlot_67 : decode cX7_fillsSlot 67 = .ok (.iconst 0, 1) := by decide +kernel
theorem dX7_fillsSlot_68 : decode cX7_fillsSlot 68 = .ok (.istore 6, 2) := by decide +kernel
theorem dX7_fillsSlot_70 : decode cX7_fillsSlot 70 = .ok (.iload 5, 2) := by decide +kernel
theorem dX7_fillsSlot_72 : decode cX7_fillsSlot 72 = .ok (.aload_n 0, 1) := by decide +kernel
theorem dX7_fillsSlot_73 : decode cX7_fillsSlot 73 = .ok (.getfield 13, 3) := by decide +kernel
theorem dX7_fillsSlot_76 : decode cX7_fillsSlot 76 = .ok (.iload 6, 2) := by decide +kernel
theorem dX7_fillsSlot_78 : decode cX7_fillsSlot 78 = .ok (.iaload, 1) := by decide +kernel
theorem dX7_fillsSlot_79 : decode cX7_fillsSlot 79 = .ok (.if_icmp .lt 21, 3) := by decide +kernel
theorem dX7_fillsSlot_82 : decode cX7_fillsSlot 82 = .ok (.iload 5, 2) := by decide +kernel
theorem dX7_fillsSlot_84 : decode cX7_fillsSlot 84 = .ok (.aload_n 0, 1) := by decide +kernel
theorem dX7_fillsSlot_85 : decode cX7_fillsSlot 85 = .ok (.getfield 13, 3) := by decide +kernel
theorem dX7_fillsSlot_88 : decode cX7_fillsSlot 88 = .ok (.iload 6, 2) := by decide +kernel
theorem dX7_fillsSlot_90 : decode cX7_fillsSlot 90 = .ok (.iaload, 1) := by decide +kernel
theorem dX7_fillsSlot_91 : decode cX7_fillsSlot 91 = .ok (.isub, 1) := by decide +kernel
theorem dX7_fillsSlot_92 : decode cX7_fillsSlot 92 = .ok (.istore 5, 2) := by decide +kernel
theorem dX7_fillsSlot_94 : decode cX7_fillsSlot 94 = .ok (.iinc 6 1, 3) := by decide +kernel
theorem dX7_fillsSlot_97 : decode cX7_fillsSlot 97 = .ok (.goto (-27), 3) := by decide +kernel
theorem dX7_fillsSlot_100 : decode cX7_fillsSlot 100 = .ok (.aload_n 0, 1) := by decide +kernel
theorem dX7_fillsSlot_101 : decode cX7_fillsSlot 101 = .ok (.getfield 13, 3) := by decide +kernel
theorem dX7_fillsSlot_104 : decode cX7_fillsSlot 104 = .ok (.iload 6, 2) := by decide +kernel
theorem dX7_fillsSlot_106 : decode cX7_fillsSlot 106 = .ok (.dup2, 1) := by decide +kernel
theorem dX7_fillsSlot_107 : decode cX7_fillsSlot 107 = .ok (.iaload, 1) := by decide +kernel
theorem dX7_fillsSlot_108 : decode cX7_fillsSlot 108 = .ok (.iconst 1, 1) := by decide +kernel
theorem dX7_fillsSlot_109 : decode cX7_fillsSlot 109 = .ok (.isub, 1) := by decide +kernel
theorem dX7_fillsSlot_110 : decode cX7_fillsSlot 110 = .ok (.iastore, 1) := by decide +kernel
theorem dX7_fillsSlot_111 : decode cX7_fillsSlot 111 = .ok (.aload_n 0, 1) := by decide +kernel
theorem dX7_fillsSlot_112 : decode cX7_fillsSlot 112 = .ok (.getfield 28, 3) := by decide +kernel
theorem dX7_fillsSlot_115 : decode cX7_fillsSlot 115 = .ok (.iconst 3, 1) := by decide +kernel
theorem dX7_fillsSlot_116 : decode cX7_fillsSlot 116 = .ok (.iload_n 1, 1) := by decide +kernel
theorem dX7_fillsSlot_117 : decode cX7_fillsSlot 117 = .ok (.imul, 1) := by decide +kernel
theorem dX7_fillsSlot_118 : decode cX7_fillsSlot 118 = .ok (.iload_n 2, 1) := by decide +kernel
theorem dX7_fillsSlot_119 : decode cX7_fillsSlot 119 = .ok (.iadd, 1) := by decide +kernel
theorem dX7_fillsSlot_120 : decode cX7_fillsSlot 120 = .ok (.iload 6, 2) := by decide +kernel
theorem dX7_fillsSlot_122 : decode cX7_fillsSlot 122 = .ok (.iastore, 1) := by decide +kernel
theorem dX7_fillsSlot_123 : decode cX7_fillsSlot 123 = .ok (.return_, 1) := by decide +kernel
theorem dX7_fills_0 : decode cX7_fills 0 = .ok (.iconst 0, 1) := by decide +kernel
theorem dX7_fills_1 : decode cX7_fills 1 = .ok (.istore_n 2, 1) := by decide +kernel
theorem dX7_fills_2 : decode cX7_fills 2 = .ok (.iload_n 2, 1) := by decide +kernel
theorem dX7_fills_3 : decode cX7_fills 3 = .ok (.iconst 3, 1) := by decide +kernel
theorem dX7_fills_4 : decode cX7_fills 4 = .ok (.if_icmp .ge 46, 3) := by decide +kernel
theorem dX7_fills_7 : decode cX7_fills 7 = .ok (.aload_n 0, 1) := by decide +kernel
theorem dX7_fills_8 : decode cX7_fills 8 = .ok (.getfield 28, 3) := by decide +kernel
theorem dX7_fills_11 : decode cX7_fills 11 = .ok (.iconst 3, 1) := by decide +kernel
theorem dX7_fills_12 : decode cX7_fills 12 = .ok (.iload_n 1, 1) := by decide +kernel
theorem dX7_fills_13 : decode cX7_fills 13 = .ok (.imul, 1) := by decide +kernel
theorem dX7_fills_14 : decode cX7_fills 14 = .ok (.iload_n 2, 1) := by decide +kernel
theorem dX7_fills_15 : decode cX7_fills 15 = .ok (.iadd, 1) := by decide +kernel
theorem dX7_fills_16 : decode cX7_fills 16 = .ok (.iaload, 1) := by decide +kernel
theorem dX7_fills_17 : decode cX7_fills 17 = .ok (.istore_n 3, 1) := by decide +kernel
theorem dX7_fills_18 : decode cX7_fills 18 = .ok (.iload_n 3, 1) := by decide +kernel
theorem dX7_fills_19 : decode cX7_fills 19 = .ok (.iconst (-1), 1) := by decide +kernel
theorem dX7_fills_20 : decode cX7_fills 20 = .ok (.if_icmp .eq 13, 3) := by decide +kernel
theorem dX7_fills_23 : decode cX7_fills 23 = .ok (.aload_n 0, 1) := by decide +kernel
theorem dX7_fills_24 : decode cX7_fills 24 = .ok (.getfield 13, 3) := by decide +kernel
theorem dX7_fills_27 : decode cX7_fills 27 = .ok (.iload_n 3, 1) := by decide +kernel
theorem dX7_fills_28 : decode cX7_fills 28 = .ok (.dup2, 1) := by decide +kernel
theorem dX7_fills_29 : decode cX7_fills 29 = .ok (.iaload, 1) := by decide +kernel
theorem dX7_fills_30 : decode cX7_fills 30 = .ok (.iconst 1, 1) := by decide +kernel
theorem dX7_fills_31 : decode cX7_fills 31 = .ok (.iadd, 1) := by decide +kernel
theorem dX7_fills_32 : decode cX7_fills 32 = .ok (.iastore, 1) := by decide +kernel
theorem dX7_fills_33 : decode cX7_fills 33 = .ok (.aload_n 0, 1) := by decide +kernel
theorem dX7_fills_34 : decode cX7_fills 34 = .ok (.getfield 28, 3) := by decide +kernel
theorem dX7_fills_37 : decode cX7_fills 37 = .ok (.iconst 3, 1) := by decide +kernel
theorem dX7_fills_38 : decode cX7_fills 38 = .ok (.iload_n 1, 1) := by decide +kernel
theorem dX7_fills_39 : decode cX7_fills 39 = .ok (.imul, 1) := by decide +kernel
theorem dX7_fills_40 : decode cX7_fills 40 = .ok (.iload_n 2, 1) := by decide +kernel
theorem dX7_fills_41 : decode cX7_fills 41 = .ok (.iadd, 1) := by decide +kernel
theorem dX7_fills_42 : decode cX7_fills 42 = .ok (.iconst (-1), 1) := by decide +kernel
theorem dX7_fills_43 : decode cX7_fills 43 = .ok (.iastore, 1) := by decide +kernel
theorem dX7_fills_44 : decode cX7_fills 44 = .ok (.iinc 2 1, 3) := by decide +kernel
theorem dX7_fills_47 : decode cX7_fills 47 = .ok (.goto (-45), 3) := by decide +kernel
theorem dX7_fills_50 : decode cX7_fills 50 = .ok (.iconst 0, 1) := by decide +kernel
theorem dX7_fills_51 : decode cX7_fills 51 = .ok (.istore_n 2, 1) := by decide +kernel
theorem dX7_fills_52 : decode cX7_fills 52 = .ok (.iload_n 2, 1) := by decide +kernel
theorem dX7_fills_53 : decode cX7_fills 53 = .ok (.iconst 3, 1) := by decide +kernel
theorem dX7_fills_54 : decode cX7_fills 54 = .ok (.if_icmp .ge 15, 3) := by decide +kernel
theorem dX7_fills_57 : decode cX7_fills 57 = .ok (.aload_n 0, 1) := by decide +kernel
theorem dX7_fills_58 : decode cX7_fills 58 = .ok (.iload_n 1, 1) := by decide +kernel
theorem dX7_fills_59 : decode cX7_fills 59 = .ok (.iload_n 2, 1) := by decide +kernel
theorem dX7_fills_60 : decode cX7_fills 60 = .ok (.invokevirtual 85, 3) := by decide +kernel
theorem dX7_fills_63 : decode cX7_fills 63 = .ok (.iinc 2 1, 3) := by decide +kernel
theorem dX7_fills_66 : decode cX7_fills 66 = .ok (.goto (-14), 3) := by decide +kernel
theorem dX7_fills_69 : decode cX7_fills 69 = .ok (.aload_n 0, 1) := by decide +kernel
theorem dX7_fills_70 : decode cX7_fills 70 = .ok (.getfield 31, 3) := by decide +kernel
theorem dX7_fills_73 : decode cX7_fills 73 = .ok (.iload_n 1, 1) := by decide +kernel
theorem dX7_fills_74 : decode cX7_fills 74 = .ok (.iconst 0, 1) := by decide +kernel
theorem dX7_fills_75 : decode cX7_fills 75 = .ok (.bastore, 1) := by decide +kernel
theorem dX7_fills_76 : decode cX7_fills 76 = .ok (.return_, 1) := by decide +kernel
theorem dX7_roll_0 : decode cX7_roll 0 = .ok (.aload_n 0, 1) := by decide +kernel
theorem dX7_roll_1 : decode cX7_roll 1 = .ok (.iload_n 1, 1) := by decide +kernel
theorem dX7_roll_2 : decode cX7_roll 2 = .ok (.invokestatic 64, 3) := by decide +kernel
theorem dX7_roll_5 : decode cX7_roll 5 = .ok (.ifCond .ne 7, 3) := by decide +kernel
theorem dX7_roll_8 : decode cX7_roll 8 = .ok (.iconst 1, 1) := by decide +kernel
theorem dX7_roll_9 : decode cX7_roll 9 = .ok (.goto 17, 3) := by decide +kernel
theorem dX7_roll_12 : decode cX7_roll 12 = .ok (.aload_n 0, 1) := by decide +kernel
theorem dX7_roll_13 : decode cX7_roll 13 = .ok (.getfield 16, 3) := by decide +kernel
theorem dX7_roll_16 : decode cX7_roll 16 = .ok (.iload_n 1, 1) := by decide +kernel
theorem dX7_roll_17 : decode cX7_roll 17 = .ok (.iaload, 1) := by decide +kernel
theorem dX7_roll_18 : decode cX7_roll 18 = .ok (.ifCond .ne 7, 3) := by decide +kernel
theorem dX7_roll_21 : decode cX7_roll 21 = .ok (.iconst 2, 1) := by decide +kernel
theorem dX7_roll_22 : decode cX7_roll 22 = .ok (.goto 4, 3) := by decide +kernel
theorem dX7_roll_25 : decode cX7_roll 25 = .ok (.iconst 0, 1) := by decide +kernel
theorem dX7_roll_26 : decode cX7_roll 26 = .ok (.invokevirtual 71, 3) := by decide +kernel
theorem dX7_roll_29 : decode cX7_roll 29 = .ok (.ifCond .ne 5, 3) := by decide +kernel
theorem dX7_roll_32 : decode cX7_roll 32 = .ok (.iconst 0, 1) := by decide +kernel
theorem dX7_roll_33 : decode cX7_roll 33 = .ok (.ireturn, 1) := by decide +kernel
theorem dX7_roll_34 : decode cX7_roll 34 = .ok (.aload_n 0, 1) := by decide +kernel
theorem dX7_roll_35 : decode cX7_roll 35 = .ok (.getfield 16, 3) := by decide +kernel
theorem dX7_roll_38 : decode cX7_roll 38 = .ok (.iload_n 1, 1) := by decide +kernel
theorem dX7_roll_39 : decode cX7_roll 39 = .ok (.dup2, 1) := by decide +kernel
theorem dX7_roll_40 : decode cX7_roll 40 = .ok (.iaload, 1) := by decide +kernel
theorem dX7_roll_41 : decode cX7_roll 41 = .ok (.iconst 1, 1) := by decide +kernel
theorem dX7_roll_42 : decode cX7_roll 42 = .ok (.isub, 1) := by decide +kernel
theorem dX7_roll_43 : decode cX7_roll 43 = .ok (.iastore, 1) := by decide +kernel
theorem dX7_roll_44 : decode cX7_roll 44 = .ok (.aload_n 0, 1) := by decide +kernel
theorem dX7_roll_45 : decode cX7_roll 45 = .ok (.iload_n 1, 1) := by decide +kernel
theorem dX7_roll_46 : decode cX7_roll 46 = .ok (.invokevirtual 89, 3) := by decide +kernel
theorem dX7_roll_49 : decode cX7_roll 49 = .ok (.aload_n 0, 1) := by decide +kernel
theorem dX7_roll_50 : decode cX7_roll 50 = .ok (.getfield 16, 3) := by decide +kernel
theorem dX7_roll_53 : decode cX7_roll 53 = .ok (.iload_n 1, 1) := by decide +kernel
theorem dX7_roll_54 : decode cX7_roll 54 = .ok (.iaload, 1) := by decide +kernel
theorem dX7_roll_55 : decode cX7_roll 55 = .ok (.ireturn, 1) := by decide +kernel
theorem dX7_toggleLock_0 : decode cX7_toggleLock 0 = .ok (.aload_n 0, 1) := by decide +kernel
theorem dX7_toggleLock_1 : decode cX7_toggleLock 1 = .ok (.iload_n 1, 1) := by decide +kernel
theorem dX7_toggleLock_2 : decode cX7_toggleLock 2 = .ok (.invokestatic 64, 3) := by decide +kernel
theorem dX7_toggleLock_5 : decode cX7_toggleLock 5 = .ok (.ifCond .eq 7, 3) := by decide +kernel
theorem dX7_toggleLock_8 : decode cX7_toggleLock 8 = .ok (.iconst 0, 1) := by decide +kernel
theorem dX7_toggleLock_9 : decode cX7_toggleLock 9 = .ok (.goto 4, 3) := by decide +kernel
theorem dX7_toggleLock_12 : decode cX7_toggleLock 12 = .ok (.iconst 1, 1) := by decide +kernel
theorem dX7_toggleLock_13 : decode cX7_toggleLock 13 = .ok (.invokevirtual 71, 3) := by decide +kernel
theorem dX7_toggleLock_16 : decode cX7_toggleLock 16 = .ok (.ifCond .ne 5, 3) := by decide +kernel
theorem dX7_toggleLock_19 : decode cX7_toggleLock 19 = .ok (.iconst 0, 1) := by decide +kernel
theorem dX7_toggleLock_20 : decode cX7_toggleLock 20 = .ok (.ireturn, 1) := by decide +kernel
theorem dX7_toggleLock_21 : decode cX7_toggleLock 21 = .ok (.aload_n 0, 1) := by decide +kernel
theorem dX7_toggleLock_22 : decode cX7_toggleLock 22 = .ok (.getfield 31, 3) := by decide +kernel
theorem dX7_toggleLock_25 : decode cX7_toggleLock 25 = .ok (.iload_n 1, 1) := by decide +kernel
theorem dX7_toggleLock_26 : decode cX7_toggleLock 26 = .ok (.aload_n 0, 1) := by decide +kernel
theorem dX7_toggleLock_27 : decode cX7_toggleLock 27 = .ok (.getfield 31, 3) := by decide +kernel
theorem dX7_toggleLock_30 : decode cX7_toggleLock 30 = .ok (.iload_n 1, 1) := by decide +kernel
theorem dX7_toggleLock_31 : decode cX7_toggleLock 31 = .ok (.baload, 1) := by decide +kernel
theorem dX7_toggleLock_32 : decode cX7_toggleLock 32 = .ok (.ifCond .ne 7, 3) := by decide +kernel
theorem dX7_toggleLock_35 : decode cX7_toggleLock 35 = .ok (.iconst 1, 1) := by decide +kernel
theorem dX7_toggleLock_36 : decode cX7_toggleLock 36 = .ok (.goto 4, 3) := by decide +kernel
theorem dX7_toggleLock_39 : decode cX7_toggleLock 39 = .ok (.iconst 0, 1) := by decide +kernel
theorem dX7_toggleLock_40 : decode cX7_toggleLock 40 = .ok (.bastore, 1) := by decide +kernel
theorem dX7_toggleLock_41 : decode cX7_toggleLock 41 = .ok (.aload_n 0, 1) := by decide +kernel
theorem dX7_toggleLock_42 : decode cX7_toggleLock 42 = .ok (.getfield 31, 3) := by decide +kernel
theorem dX7_toggleLock_45 : decode cX7_toggleLock 45 = .ok (.iload_n 1, 1) := by decide +kernel
theorem dX7_toggleLock_46 : decode cX7_toggleLock 46 = .ok (.baload, 1) := by decide +kernel
theorem dX7_toggleLock_47 : decode cX7_toggleLock 47 = .ok (.ireturn, 1) := by decide +kernel
theorem dX7_buyLevel_0 : decode cX7_buyLevel 0 = .ok (.aload_n 0, 1) := by decide +kernel
theorem dX7_buyLevel_1 : decode cX7_buyLevel 1 = .ok (.iload_n 1, 1) := by decide +kernel
theorem dX7_buyLevel_2 : decode cX7_buyLevel 2 = .ok (.invokestatic 64, 3) := by decide +kernel
theorem dX7_buyLevel_5 : decode cX7_buyLevel 5 = .ok (.ifCond .ne 7, 3) := by decide +kernel
theorem dX7_buyLevel_8 : decode cX7_buyLevel 8 = .ok (.iconst 1, 1) := by decide +kernel
theorem dX7_buyLevel_9 : decode cX7_buyLevel 9 = .ok (.goto 28, 3) := by decide +kernel
theorem dX7_buyLevel_12 : decode cX7_buyLevel 12 = .ok (.aload_n 0, 1) := by decide +kernel
theorem dX7_buyLevel_13 : decode cX7_buyLevel 13 = .ok (.getfield 16, 3) := by decide +kernel
theorem dX7_buyLevel_16 : decode cX7_buyLevel 16 = .ok (.iload_n 1, 1) := by decide +kernel
theorem dX7_buyLevel_17 : decode cX7_buyLevel 17 = .ok (.iaload, 1) := by decide +kernel
theorem dX7_buyLevel_18 : decode cX7_buyLevel 18 = .ok (.iconst 4, 1) := by decide +kernel
theorem dX7_buyLevel_19 : decode cX7_buyLevel 19 = .ok (.if_icmp .lt 13, 3) := by decide +kernel
theorem dX7_buyLevel_22 : decode cX7_buyLevel 22 = .ok (.aload_n 0, 1) := by decide +kernel
theorem dX7_buyLevel_23 : decode cX7_buyLevel 23 = .ok (.getfield 19, 3) := by decide +kernel
theorem dX7_buyLevel_26 : decode cX7_buyLevel 26 = .ok (.iload_n 1, 1) := by decide +kernel
theorem dX7_buyLevel_27 : decode cX7_buyLevel 27 = .ok (.iaload, 1) := by decide +kernel
theorem dX7_buyLevel_28 : decode cX7_buyLevel 28 = .ok (.iconst 5, 1) := by decide +kernel
theorem dX7_buyLevel_29 : decode cX7_buyLevel 29 = .ok (.if_icmp .ne 7, 3) := by decide +kernel
theorem dX7_buyLevel_32 : decode cX7_buyLevel 32 = .ok (.iconst 2, 1) := by decide +kernel
theorem dX7_buyLevel_33 : decode cX7_buyLevel 33 = .ok (.goto 4, 3) := by decide +kernel
theorem dX7_buyLevel_36 : decode cX7_buyLevel 36 = .ok (.iconst 0, 1) := by decide +kernel
theorem dX7_buyLevel_37 : decode cX7_buyLevel 37 = .ok (.invokevirtual 71, 3) := by decide +kernel
theorem dX7_buyLevel_40 : decode cX7_buyLevel 40 = .ok (.ifCond .ne 5, 3) := by decide +kernel
theorem dX7_buyLevel_43 : decode cX7_buyLevel 43 = .ok (.iconst 0, 1) := by decide +kernel
theorem dX7_buyLevel_44 : decode cX7_buyLevel 44 = .ok (.ireturn, 1) := by decide +kernel
theorem dX7_buyLevel_45 : decode cX7_buyLevel 45 = .ok (.aload_n 0, 1) := by decide +kernel
theorem dX7_buyLevel_46 : decode cX7_buyLevel 46 = .ok (.getfield 16, 3) := by decide +kernel
theorem dX7_buyLevel_49 : decode cX7_buyLevel 49 = .ok (.iload_n 1, 1) := by decide +kernel
theorem dX7_buyLevel_50 : decode cX7_buyLevel 50 = .ok (.dup2, 1) := by decide +kernel
theorem dX7_buyLevel_51 : decode cX7_buyLevel 51 = .ok (.iaload, 1) := by decide +kernel
theorem dX7_buyLevel_52 : decode cX7_buyLevel 52 = .ok (.iconst 4, 1) := by decide +kernel
theorem dX7_buyLevel_53 : decode cX7_buyLevel 53 = .ok (.isub, 1) := by decide +kernel
theorem dX7_buyLevel_54 : decode cX7_buyLevel 54 = .ok (.iastore, 1) := by decide +kernel
theorem dX7_buyLevel_55 : decode cX7_buyLevel 55 = .ok (.aload_n 0, 1) := by decide +kernel
theorem dX7_buyLevel_56 : decode cX7_buyLevel 56 = .ok (.getfield 19, 3) := by decide +kernel
theorem dX7_buyLevel_59 : decode cX7_buyLevel 59 = .ok (.iload_n 1, 1) := by decide +kernel
theorem dX7_buyLevel_60 : decode cX7_buyLevel 60 = .ok (.dup2, 1) := by decide +kernel
theorem dX7_buyLevel_61 : decode cX7_buyLevel 61 = .ok (.iaload, 1) := by decide +kernel
theorem dX7_buyLevel_62 : decode cX7_buyLevel 62 = .ok (.iconst 1, 1) := by decide +kernel
theorem dX7_buyLevel_63 : decode cX7_buyLevel 63 = .ok (.iadd, 1) := by decide +kernel
theorem dX7_buyLevel_64 : decode cX7_buyLevel 64 = .ok (.iastore, 1) := by decide +kernel
theorem dX7_buyLevel_65 : decode cX7_buyLevel 65 = .ok (.aload_n 0, 1) := by decide +kernel
theorem dX7_buyLevel_66 : decode cX7_buyLevel 66 = .ok (.getfield 19, 3) := by decide +kernel
theorem dX7_buyLevel_69 : decode cX7_buyLevel 69 = .ok (.iload_n 1, 1) := by decide +kernel
theorem dX7_buyLevel_70 : decode cX7_buyLevel 70 = .ok (.iaload, 1) := by decide +kernel
theorem dX7_buyLevel_71 : decode cX7_buyLevel 71 = .ok (.ireturn, 1) := by decide +kernel
theorem dX7_alike_0 : decode cX7_alike 0 = .ok (.iconst 0, 1) := by decide +kernel
theorem dX7_alike_1 : decode cX7_alike 1 = .ok (.istore_n 3, 1) := by decide +kernel
theorem dX7_alike_2 : decode cX7_alike 2 = .ok (.iconst 0, 1) := by decide +kernel
theorem dX7_alike_3 : decode cX7_alike 3 = .ok (.istore 4, 2) := by decide +kernel
theorem dX7_alike_5 : decode cX7_alike 5 = .ok (.iload 4, 2) := by decide +kernel
theorem dX7_alike_7 : decode cX7_alike 7 = .ok (.aload_n 0, 1) := by decide +kernel
theorem dX7_alike_8 : decode cX7_alike 8 = .ok (.getfield 41, 3) := by decide +kernel
theorem dX7_alike_11 : decode cX7_alike 11 = .ok (.iload_n 1, 1) := by decide +kernel
theorem dX7_alike_12 : decode cX7_alike 12 = .ok (.iaload, 1) := by decide +kernel
theorem dX7_alike_13 : decode cX7_alike 13 = .ok (.if_icmp .ge 32, 3) := by decide +kernel
theorem dX7_alike_16 : decode cX7_alike 16 = .ok (.iload_n 3, 1) := by decide +kernel
theorem dX7_alike_17 : decode cX7_alike 17 = .ok (.aload_n 0, 1) := by decide +kernel
theorem dX7_alike_18 : decode cX7_alike 18 = .ok (.getfield 44, 3) := by decide +kernel
theorem dX7_alike_21 : decode cX7_alike 21 = .ok (.iconst 5, 1) := by decide +kernel
theorem dX7_alike_22 : decode cX7_alike 22 = .ok (.iload_n 1, 1) := by decide +kernel
theorem dX7_alike_23 : decode cX7_alike 23 = .ok (.imul, 1) := by decide +kernel
theorem dX7_alike_24 : decode cX7_alike 24 = .ok (.iload 4, 2) := by decide +kernel
theorem dX7_alike_26 : decode cX7_alike 26 = .ok (.iadd, 1) := by decide +kernel
theorem dX7_alike_27 : decode cX7_alike 27 = .ok (.iaload, 1) := by decide +kernel
theorem dX7_alike_28 : decode cX7_alike 28 = .ok (.iload_n 2, 1) := by decide +kernel
theorem dX7_alike_29 : decode cX7_alike 29 = .ok (.if_icmp .ne 7, 3) := by decide +kernel
theorem dX7_alike_32 : decode cX7_alike 32 = .ok (.iconst 1, 1) := by decide +kernel
theorem dX7_alike_33 : decode cX7_alike 33 = .ok (.goto 4, 3) := by decide +kernel
theorem dX7_alike_36 : decode cX7_alike 36 = .ok (.iconst 0, 1) := by decide +kernel
theorem dX7_alike_37 : decode cX7_alike 37 = .ok (.iadd, 1) := by decide +kernel
theorem dX7_alike_38 : decode cX7_alike 38 = .ok (.istore_n 3, 1) := by decide +kernel
theorem dX7_alike_39 : decode cX7_alike 39 = .ok (.iinc 4 1, 3) := by decide +kernel
theorem dX7_alike_42 : decode cX7_alike 42 = .ok (.goto (-37), 3) := by decide +kernel
theorem dX7_alike_45 : decode cX7_alike 45 = .ok (.iconst 0, 1) := by decide +kernel
theorem dX7_alike_46 : decode cX7_alike 46 = .ok (.istore 4, 2) := by decide +kernel
theorem dX7_alike_48 : decode cX7_alike 48 = .ok (.iload 4, 2) := by decide +kernel
theorem dX7_alike_50 : decode cX7_alike 50 = .ok (.aload_n 0, 1) := by decide +kernel
theorem dX7_alike_51 : decode cX7_alike 51 = .ok (.getfield 35, 3) := by decide +kernel
theorem dX7_alike_54 : decode cX7_alike 54 = .ok (.iload_n 1, 1) := by decide +kernel
theorem dX7_alike_55 : decode cX7_alike 55 = .ok (.iaload, 1) := by decide +kernel
theorem dX7_alike_56 : decode cX7_alike 56 = .ok (.if_icmp .ge 33, 3) := by decide +kernel
theorem dX7_alike_59 : decode cX7_alike 59 = .ok (.iload_n 3, 1) := by decide +kernel
theorem dX7_alike_60 : decode cX7_alike 60 = .ok (.aload_n 0, 1) := by decide +kernel
theorem dX7_alike_61 : decode cX7_alike 61 = .ok (.getfield 38, 3) := by decide +kernel
theorem dX7_alike_64 : decode cX7_alike 64 = .ok (.bipush 6, 2) := by decide +kernel
theorem dX7_alike_66 : decode cX7_alike 66 = .ok (.iload_n 1, 1) := by decide +kernel
theorem dX7_alike_67 : decode cX7_alike 67 = .ok (.imul, 1) := by decide +kernel
theorem dX7_alike_68 : decode cX7_alike 68 = .ok (.iload 4, 2) := by decide +kernel
theorem dX7_alike_70 : decode cX7_alike 70 = .ok (.iadd, 1) := by decide +kernel
theorem dX7_alike_71 : decode cX7_alike 71 = .ok (.iaload, 1) := by decide +kernel
theorem dX7_alike_72 : decode cX7_alike 72 = .ok (.iload_n 2, 1) := by decide +kernel
theorem dX7_alike_73 : decode cX7_alike 73 = .ok (.if_icmp .ne 7, 3) := by decide +kernel
theorem dX7_alike_76 : decode cX7_alike 76 = .ok (.iconst 1, 1) := by decide +kernel
theorem dX7_alike_77 : decode cX7_alike 77 = .ok (.goto 4, 3) := by decide +kernel
theorem dX7_alike_80 : decode cX7_alike 80 = .ok (.iconst 0, 1) := by decide +kernel
theorem dX7_alike_81 : decode cX7_alike 81 = .ok (.iadd, 1) := by decide +kernel
theorem dX7_alike_82 : decode cX7_alike 82 = .ok (.istore_n 3, 1) := by decide +kernel
theorem dX7_alike_83 : decode cX7_alike 83 = .ok (.iinc 4 1, 3) := by decide +kernel
theorem dX7_alike_86 : decode cX7_alike 86 = .ok (.goto (-38), 3) := by decide +kernel
theorem dX7_alike_89 : decode cX7_alike 89 = .ok (.iload_n 3, 1) := by decide +kernel
theorem dX7_alike_90 : decode cX7_alike 90 = .ok (.ireturn, 1) := by decide +kernel
theorem dX7_takesOffBoard_0 : decode cX7_takesOffBoard 0 = .ok (.iload_n 2, 1) := by decide +kernel
theorem dX7_takesOffBoard_1 : decode cX7_takesOffBoard 1 = .ok (.iconst 1, 1) := by decide +kernel
theorem dX7_takesOffBoard_2 : decode cX7_takesOffBoard 2 = .ok (.iadd, 1) := by decide +kernel
theorem dX7_takesOffBoard_3 : decode cX7_takesOffBoard 3 = .ok (.istore_n 3, 1) := by decide +kernel
theorem dX7_takesOffBoard_4 : decode cX7_takesOffBoard 4 = .ok (.iload_n 3, 1) := by decide +kernel
theorem dX7_takesOffBoard_5 : decode cX7_takesOffBoard 5 = .ok (.aload_n 0, 1) := by decide +kernel
theorem dX7_takesOffBoard_6 : decode cX7_takesOffBoard 6 = .ok (.getfield 41, 3) := by decide +kernel
theorem dX7_takesOffBoard_9 : decode cX7_takesOffBoard 9 = .ok (.iload_n 1, 1) := by decide +kernel
theorem dX7_takesOffBoard_10 : decode cX7_takesOffBoard 10 = .ok (.iaload, 1) := by decide +kernel
theorem dX7_takesOffBoard_11 : decode cX7_takesOffBoard 11 = .ok (.if_icmp .ge 31, 3) := by decide +kernel
theorem dX7_takesOffBoard_14 : decode cX7_takesOffBoard 14 = .ok (.aload_n 0, 1) := by decide +kernel
theorem dX7_takesOffBoard_15 : decode cX7_takesOffBoard 15 = .ok (.getfield 44, 3) := by decide +kernel
theorem dX7_takesOffBoard_18 : decode cX7_takesOffBoard 18 = .ok (.iconst 5, 1) := by decide +kernel
theorem dX7_takesOffBoard_19 : decode cX7_takesOffBoard 19 = .ok (.iload_n 1, 1) := by decide +kernel
theorem dX7_takesOffBoard_20 : decode cX7_takesOffBoard 20 = .ok (.imul, 1) := by decide +kernel
theorem dX7_takesOffBoard_21 : decode cX7_takesOffBoard 21 = .ok (.iload_n 3, 1) := by decide +kernel
theorem dX7_takesOffBoard_22 : decode cX7_takesOffBoard 22 = .ok (.iadd, 1) := by decide +kernel
theorem dX7_takesOffBoard_23 : decode cX7_takesOffBoard 23 = .ok (.iconst 1, 1) := by decide +kernel
theorem dX7_takesOffBoard_24 : decode cX7_takesOffBoard 24 = .ok (.isub, 1) := by decide +kernel
theorem dX7_takesOffBoard_25 : decode cX7_takesOffBoard 25 = .ok (.aload_n 0, 1) := by decide +kernel
theorem dX7_takesOffBoard_26 : decode cX7_takesOffBoard 26 = .ok (.getfield 44, 3) := by decide +kernel
theorem dX7_takesOffBoard_29 : decode cX7_takesOffBoard 29 = .ok (.iconst 5, 1) := by decide +kernel
theorem dX7_takesOffBoard_30 : decode cX7_takesOffBoard 30 = .ok (.iload_n 1, 1) := by decide +kernel
theorem dX7_takesOffBoard_31 : decode cX7_takesOffBoard 31 = .ok (.imul, 1) := by decide +kernel
theorem dX7_takesOffBoard_32 : decode cX7_takesOffBoard 32 = .ok (.iload_n 3, 1) := by decide +kernel
theorem dX7_takesOffBoard_33 : decode cX7_takesOffBoard 33 = .ok (.iadd, 1) := by decide +kernel
theorem dX7_takesOffBoard_34 : decode cX7_takesOffBoard 34 = .ok (.iaload, 1) := by decide +kernel
theorem dX7_takesOffBoard_35 : decode cX7_takesOffBoard 35 = .ok (.iastore, 1) := by decide +kernel
theorem dX7_takesOffBoard_36 : decode cX7_takesOffBoard 36 = .ok (.iinc 3 1, 3) := by decide +kernel
theorem dX7_takesOffBoard_39 : decode cX7_takesOffBoard 39 = .ok (.goto (-35), 3) := by decide +kernel
theorem dX7_takesOffBoard_42 : decode cX7_takesOffBoard 42 = .ok (.aload_n 0, 1) := by decide +kernel
theorem dX7_takesOffBoard_43 : decode cX7_takesOffBoard 43 = .ok (.getfield 41, 3) := by decide +kernel
theorem dX7_takesOffBoard_46 : decode cX7_takesOffBoard 46 = .ok (.iload_n 1, 1) := by decide +kernel
theorem dX7_takesOffBoard_47 : decode cX7_takesOffBoard 47 = .ok (.dup2, 1) := by decide +kernel
theorem dX7_takesOffBoard_48 : decode cX7_takesOffBoard 48 = .ok (.iaload, 1) := by decide +kernel
theorem dX7_takesOffBoard_49 : decode cX7_takesOffBoard 49 = .ok (.iconst 1, 1) := by decide +kernel
theorem dX7_takesOffBoard_50 : decode cX7_takesOffBoard 50 = .ok (.isub, 1) := by decide +kernel
theorem dX7_takesOffBoard_51 : decode cX7_takesOffBoard 51 = .ok (.iastore, 1) := by decide +kernel
theorem dX7_takesOffBoard_52 : decode cX7_takesOffBoard 52 = .ok (.return_, 1) := by decide +kernel
theorem dX7_takesOffBench_0 : decode cX7_takesOffBench 0 = .ok (.iload_n 2, 1) := by decide +kernel
theorem dX7_takesOffBench_1 : decode cX7_takesOffBench 1 = .ok (.iconst 1, 1) := by decide +kernel
theorem dX7_takesOffBench_2 : decode cX7_takesOffBench 2 = .ok (.iadd, 1) := by decide +kernel
theorem dX7_takesOffBench_3 : decode cX7_takesOffBench 3 = .ok (.istore_n 3, 1) := by decide +kernel
theorem dX7_takesOffBench_4 : decode cX7_takesOffBench 4 = .ok (.iload_n 3, 1) := by decide +kernel
theorem dX7_takesOffBench_5 : decode cX7_takesOffBench 5 = .ok (.aload_n 0, 1) := by decide +kernel
theorem dX7_takesOffBench_6 : decode cX7_takesOffBench 6 = .ok (.getfield 35, 3) := by decide +kernel
theorem dX7_takesOffBench_9 : decode cX7_takesOffBench 9 = .ok (.iload_n 1, 1) := by decide +kernel
theorem dX7_takesOffBench_10 : decode cX7_takesOffBench 10 = .ok (.iaload, 1) := by decide +kernel
theorem dX7_takesOffBench_11 : decode cX7_takesOffBench 11 = .ok (.if_icmp .ge 33, 3) := by decide +kernel
theorem dX7_takesOffBench_14 : decode cX7_takesOffBench 14 = .ok (.aload_n 0, 1) := by decide +kernel
theorem dX7_takesOffBench_15 : decode cX7_takesOffBench 15 = .ok (.getfield 38, 3) := by decide +kernel
theorem dX7_takesOffBench_18 : decode cX7_takesOffBench 18 = .ok (.bipush 6, 2) := by decide +kernel
theorem dX7_takesOffBench_20 : decode cX7_takesOffBench 20 = .ok (.iload_n 1, 1) := by decide +kernel
theorem dX7_takesOffBench_21 : decode cX7_takesOffBench 21 = .ok (.imul, 1) := by decide +kernel
theorem dX7_takesOffBench_22 : decode cX7_takesOffBench 22 = .ok (.iload_n 3, 1) := by decide +kernel
theorem dX7_takesOffBench_23 : decode cX7_takesOffBench 23 = .ok (.iadd, 1) := by decide +kernel
theorem dX7_takesOffBench_24 : decode cX7_takesOffBench 24 = .ok (.iconst 1, 1) := by decide +kernel
theorem dX7_takesOffBench_25 : decode cX7_takesOffBench 25 = .ok (.isub, 1) := by decide +kernel
theorem dX7_takesOffBench_26 : decode cX7_takesOffBench 26 = .ok (.aload_n 0, 1) := by decide +kernel
theorem dX7_takesOffBench_27 : decode cX7_takesOffBench 27 = .ok (.getfield 38, 3) := by decide +kernel
theorem dX7_takesOffBench_30 : decode cX7_takesOffBench 30 = .ok (.bipush 6, 2) := by decide +kernel
theorem dX7_takesOffBench_32 : decode cX7_takesOffBench 32 = .ok (.iload_n 1, 1) := by decide +kernel
theorem dX7_takesOffBench_33 : decode cX7_takesOffBench 33 = .ok (.imul, 1) := by decide +kernel
theorem dX7_takesOffBench_34 : decode cX7_takesOffBench 34 = .ok (.iload_n 3, 1) := by decide +kernel
theorem dX7_takesOffBench_35 : decode cX7_takesOffBench 35 = .ok (.iadd, 1) := by decide +kernel
theorem dX7_takesOffBench_36 : decode cX7_takesOffBench 36 = .ok (.iaload, 1) := by decide +kernel
theorem dX7_takesOffBench_37 : decode cX7_takesOffBench 37 = .ok (.iastore, 1) := by decide +kernel
theorem dX7_takesOffBench_38 : decode cX7_takesOffBench 38 = .ok (.iinc 3 1, 3) := by decide +kernel
theorem dX7_takesOffBench_41 : decode cX7_takesOffBench 41 = .ok (.goto (-37), 3) := by decide +kernel
theorem dX7_takesOffBench_44 : decode cX7_takesOffBench 44 = .ok (.aload_n 0, 1) := by decide +kernel
theorem dX7_takesOffBench_45 : decode cX7_takesOffBench 45 = .ok (.getfield 35, 3) := by decide +kernel
theorem dX7_takesOffBench_48 : decode cX7_takesOffBench 48 = .ok (.iload_n 1, 1) := by decide +kernel
theorem dX7_takesOffBench_49 : decode cX7_takesOffBench 49 = .ok (.dup2, 1) := by decide +kernel
theorem dX7_takesOffBench_50 : decode cX7_takesOffBench 50 = .ok (.iaload, 1) := by decide +kernel
theorem dX7_takesOffBench_51 : decode cX7_takesOffBench 51 = .ok (.iconst 1, 1) := by decide +kernel
theorem dX7_takesOffBench_52 : decode cX7_takesOffBench 52 = .ok (.isub, 1) := by decide +kernel
theorem dX7_takesOffBench_53 : decode cX7_takesOffBench 53 = .ok (.iastore, 1) := by decide +kernel
theorem dX7_takesOffBench_54 : decode cX7_takesOffBench 54 = .ok (.return_, 1) := by decide +kernel
theorem dX7_placeOf_0 : decode cX7_placeOf 0 = .ok (.iload_n 3, 1) := by decide +kernel
theorem dX7_placeOf_1 : decode cX7_placeOf 1 = .ok (.istore 4, 2) := by decide +kernel
theorem dX7_placeOf_3 : decode cX7_placeOf 3 = .ok (.iload 4, 2) := by decide +kernel
theorem dX7_placeOf_5 : decode cX7_placeOf 5 = .ok (.aload_n 0, 1) := by decide +kernel
theorem dX7_placeOf_6 : decode cX7_placeOf 6 = .ok (.getfield 41, 3) := by decide +kernel
theorem dX7_placeOf_9 : decode cX7_placeOf 9 = .ok (.iload_n 1, 1) := by decide +kernel
theorem dX7_placeOf_10 : decode cX7_placeOf 10 = .ok (.iaload, 1) := by decide +kernel
theorem dX7_placeOf_11 : decode cX7_placeOf 11 = .ok (.aload_n 0, 1) := by decide +kernel
theorem dX7_placeOf_12 : decode cX7_placeOf 12 = .ok (.getfield 35, 3) := by decide +kernel
theorem dX7_placeOf_15 : decode cX7_placeOf 15 = .ok (.iload_n 1, 1) := by decide +kernel
theorem dX7_placeOf_16 : decode cX7_placeOf 16 = .ok (.iaload, 1) := by decide +kernel
theorem dX7_placeOf_17 : decode cX7_placeOf 17 = .ok (.iadd, 1) := by decide +kernel
theorem dX7_placeOf_18 : decode cX7_placeOf 18 = .ok (.if_icmp .ge 64, 3) := by decide +kernel
theorem dX7_placeOf_21 : decode cX7_placeOf 21 = .ok (.iload 4, 2) := by decide +kernel
theorem dX7_placeOf_23 : decode cX7_placeOf 23 = .ok (.aload_n 0, 1) := by decide +kernel
theorem dX7_placeOf_24 : decode cX7_placeOf 24 = .ok (.getfield 41, 3) := by decide +kernel
theorem dX7_placeOf_27 : decode cX7_placeOf 27 = .ok (.iload_n 1, 1) := by decide +kernel
theorem dX7_placeOf_28 : decode cX7_placeOf 28 = .ok (.iaload, 1) := by decide +kernel
theorem dX7_placeOf_29 : decode cX7_placeOf 29 = .ok (.if_icmp .ge 17, 3) := by decide +kernel
theorem dX7_placeOf_32 : decode cX7_placeOf 32 = .ok (.aload_n 0, 1) := by decide +kernel
theorem dX7_placeOf_33 : decode cX7_placeOf 33 = .ok (.getfield 44, 3) := by decide +kernel
theorem dX7_placeOf_36 : decode cX7_placeOf 36 = .ok (.iconst 5, 1) := by decide +kernel
theorem dX7_placeOf_37 : decode cX7_placeOf 37 = .ok (.iload_n 1, 1) := by decide +kernel
theorem dX7_placeOf_38 : decode cX7_placeOf 38 = .ok (.imul, 1) := by decide +kernel
theorem dX7_placeOf_39 : decode cX7_placeOf 39 = .ok (.iload 4, 2) := by decide +kernel
theorem dX7_placeOf_41 : decode cX7_placeOf 41 = .ok (.iadd, 1) := by decide +kernel
theorem dX7_placeOf_42 : decode cX7_placeOf 42 = .ok (.iaload, 1) := by decide +kernel
theorem dX7_placeOf_43 : decode cX7_placeOf 43 = .ok (.goto 22, 3) := by decide +kernel
theorem dX7_placeOf_46 : decode cX7_placeOf 46 = .ok (.aload_n 0, 1) := by decide +kernel
theorem dX7_placeOf_47 : decode cX7_placeOf 47 = .ok (.getfield 38, 3) := by decide +kernel
theorem dX7_placeOf_50 : decode cX7_placeOf 50 = .ok (.bipush 6, 2) := by decide +kernel
theorem dX7_placeOf_52 : decode cX7_placeOf 52 = .ok (.iload_n 1, 1) := by decide +kernel
theorem dX7_placeOf_53 : decode cX7_placeOf 53 = .ok (.imul, 1) := by decide +kernel
theorem dX7_placeOf_54 : decode cX7_placeOf 54 = .ok (.iload 4, 2) := by decide +kernel
theorem dX7_placeOf_56 : decode cX7_placeOf 56 = .ok (.iadd, 1) := by decide +kernel
theorem dX7_placeOf_57 : decode cX7_placeOf 57 = .ok (.aload_n 0, 1) := by decide +kernel
theorem dX7_placeOf_58 : decode cX7_placeOf 58 = .ok (.getfield 41, 3) := by decide +kernel
theorem dX7_placeOf_61 : decode cX7_placeOf 61 = .ok (.iload_n 1, 1) := by decide +kernel
theorem dX7_placeOf_62 : decode cX7_placeOf 62 = .ok (.iaload, 1) := by decide +kernel
theorem dX7_placeOf_63 : decode cX7_placeOf 63 = .ok (.isub, 1) := by decide +kernel
theorem dX7_placeOf_64 : decode cX7_placeOf 64 = .ok (.iaload, 1) := by decide +kernel
theorem dX7_placeOf_65 : decode cX7_placeOf 65 = .ok (.istore 5, 2) := by decide +kernel
theorem dX7_placeOf_67 : decode cX7_placeOf 67 = .ok (.iload 5, 2) := by decide +kernel
theorem dX7_placeOf_69 : decode cX7_placeOf 69 = .ok (.iload_n 2, 1) := by decide +kernel
theorem dX7_placeOf_70 : decode cX7_placeOf 70 = .ok (.if_icmp .ne 6, 3) := by decide +kernel
theorem dX7_placeOf_73 : decode cX7_placeOf 73 = .ok (.iload 4, 2) := by decide +kernel
theorem dX7_placeOf_75 : decode cX7_placeOf 75 = .ok (.ireturn, 1) := by decide +kernel
theorem dX7_placeOf_76 : decode cX7_placeOf 76 = .ok (.iinc 4 1, 3) := by decide +kernel
theorem dX7_placeOf_79 : decode cX7_placeOf 79 = .ok (.goto (-76), 3) := by decide +kernel
theorem dX7_placeOf_82 : decode cX7_placeOf 82 = .ok (.iconst (-1), 1) := by decide +kernel
theorem dX7_placeOf_83 : decode cX7_placeOf 83 = .ok (.ireturn, 1) := by decide +kernel
theorem dX7_takes_0 : decode cX7_takes 0 = .ok (.iload_n 2, 1) := by decide +kernel
theorem dX7_takes_1 : decode cX7_takes 1 = .ok (.aload_n 0, 1) := by decide +kernel
theorem dX7_takes_2 : decode cX7_takes 2 = .ok (.getfield 41, 3) := by decide +kernel
theorem dX7_takes_5 : decode cX7_takes 5 = .ok (.iload_n 1, 1) := by decide +kernel
theorem dX7_takes_6 : decode cX7_takes 6 = .ok (.iaload, 1) := by decide +kernel
theorem dX7_takes_7 : decode cX7_takes 7 = .ok (.if_icmp .ge 12, 3) := by decide +kernel
theorem dX7_takes_10 : decode cX7_takes 10 = .ok (.aload_n 0, 1) := by decide +kernel
theorem dX7_takes_11 : decode cX7_takes 11 = .ok (.iload_n 1, 1) := by decide +kernel
theorem dX7_takes_12 : decode cX7_takes 12 = .ok (.iload_n 2, 1) := by decide +kernel
theorem dX7_takes_13 : decode cX7_takes 13 = .ok (.invokevirtual 93, 3) := by decide +kernel
theorem dX7_takes_16 : decode cX7_takes 16 = .ok (.goto 16, 3) := by decide +kernel
theorem dX7_takes_19 : decode cX7_takes 19 = .ok (.aload_n 0, 1) := by decide +kernel
theorem dX7_takes_20 : decode cX7_takes 20 = .ok (.iload_n 1, 1) := by decide +kernel
theorem dX7_takes_21 : decode cX7_takes 21 = .ok (.iload_n 2, 1) := by decide +kernel
theorem dX7_takes_22 : decode cX7_takes 22 = .ok (.aload_n 0, 1) := by decide +kernel
theorem dX7_takes_23 : decode cX7_takes 23 = .ok (.getfield 41, 3) := by decide +kernel
theorem dX7_takes_26 : decode cX7_takes 26 = .ok (.iload_n 1, 1) := by decide +kernel
theorem dX7_takes_27 : decode cX7_takes 27 = .ok (.iaload, 1) := by decide +kernel
theorem dX7_takes_28 : decode cX7_takes 28 = .ok (.isub, 1) := by decide +kernel
theorem dX7_takes_29 : decode cX7_takes 29 = .ok (.invokevirtual 96, 3) := by decide +kernel
theorem dX7_takes_32 : decode cX7_takes 32 = .ok (.return_, 1) := by decide +kernel
theorem dX7_merge_0 : decode cX7_merge 0 = .ok (.aload_n 0, 1) := by decide +kernel
theorem dX7_merge_1 : decode cX7_merge 1 = .ok (.iload_n 1, 1) := by decide +kernel
theorem dX7_merge_2 : decode cX7_merge 2 = .ok (.iload_n 2, 1) := by decide +kernel
theorem dX7_merge_3 : decode cX7_merge 3 = .ok (.iconst 0, 1) := by decide +kernel
theorem dX7_merge_4 : decode cX7_merge 4 = .ok (.invokevirtual 99, 3) := by decide +kernel
theorem dX7_merge_7 : decode cX7_merge 7 = .ok (.istore_n 3, 1) := by decide +kernel
theorem dX7_merge_8 : decode cX7_merge 8 = .ok (.aload_n 0, 1) := by decide +kernel
theorem dX7_merge_9 : decode cX7_merge 9 = .ok (.iload_n 1, 1) := by decide +kernel
theorem dX7_merge_10 : decode cX7_merge 10 = .ok (.aload_n 0, 1) := by decide +kernel
theorem dX7_merge_11 : decode cX7_merge 11 = .ok (.iload_n 1, 1) := by decide +kernel
theorem dX7_merge_12 : decode cX7_merge 12 = .ok (.iload_n 2, 1) := by decide +kernel
theorem dX7_merge_13 : decode cX7_merge 13 = .ok (.iload_n 3, 1) := by decide +kernel
theorem dX7_merge_14 : decode cX7_merge 14 = .ok (.iconst 1, 1) := by decide +kernel
theorem dX7_merge_15 : decode cX7_merge 15 = .ok (.iadd, 1) := by decide +kernel
theorem dX7_merge_16 : decode cX7_merge 16 = .ok (.invokevirtual 99, 3) := by decide +kernel
theorem dX7_merge_19 : decode cX7_merge 19 = .ok (.invokevirtual 103, 3) := by decide +kernel
theorem dX7_merge_22 : decode cX7_merge 22 = .ok (.aload_n 0, 1) := by decide +kernel
theorem dX7_merge_23 : decode cX7_merge 23 = .ok (.iload_n 1, 1) := by decide +kernel
theorem dX7_merge_24 : decode cX7_merge 24 = .ok (.aload_n 0, 1) := by decide +kernel
theorem dX7_merge_25 : decode cX7_merge 25 = .ok (.iload_n 1, 1) := by decide +kernel
theorem dX7_merge_26 : decode cX7_merge 26 = .ok (.iload_n 2, 1) := by decide +kernel
theorem dX7_merge_27 : decode cX7_merge 27 = .ok (.iload_n 3, 1) := by decide +kernel
theorem dX7_merge_28 : decode cX7_merge 28 = .ok (.iconst 1, 1) := by decide +kernel
theorem dX7_merge_29 : decode cX7_merge 29 = .ok (.iadd, 1) := by decide +kernel
theorem dX7_merge_30 : decode cX7_merge 30 = .ok (.invokevirtual 99, 3) := by decide +kernel
theorem dX7_merge_33 : decode cX7_merge 33 = .ok (.invokevirtual 103, 3) := by decide +kernel
theorem dX7_merge_36 : decode cX7_merge 36 = .ok (.iload_n 3, 1) := by decide +kernel
theorem dX7_merge_37 : decode cX7_merge 37 = .ok (.aload_n 0, 1) := by decide +kernel
theorem dX7_merge_38 : decode cX7_merge 38 = .ok (.getfield 41, 3) := by decide +kernel
theorem dX7_merge_41 : decode cX7_merge 41 = .ok (.iload_n 1, 1) := by decide +kernel
theorem dX7_merge_42 : decode cX7_merge 42 = .ok (.iaload, 1) := by decide +kernel
theorem dX7_merge_43 : decode cX7_merge 43 = .ok (.if_icmp .ge 19, 3) := by decide +kernel
theorem dX7_merge_46 : decode cX7_merge 46 = .ok (.aload_n 0, 1) := by decide +kernel
theorem dX7_merge_47 : decode cX7_merge 47 = .ok (.getfield 44, 3) := by decide +kernel
theorem dX7_merge_50 : decode cX7_merge 50 = .ok (.iconst 5, 1) := by decide +kernel
theorem dX7_merge_51 : decode cX7_merge 51 = .ok (.iload_n 1, 1) := by decide +kernel
theorem dX7_merge_52 : decode cX7_merge 52 = .ok (.imul, 1) := by decide +kernel
theorem dX7_merge_53 : decode cX7_merge 53 = .ok (.iload_n 3, 1) := by decide +kernel
theorem dX7_merge_54 : decode cX7_merge 54 = .ok (.iadd, 1) := by decide +kernel
theorem dX7_merge_55 : decode cX7_merge 55 = .ok (.iload_n 2, 1) := by decide +kernel
theorem dX7_merge_56 : decode cX7_merge 56 = .ok (.iconst 1, 1) := by decide +kernel
theorem dX7_merge_57 : decode cX7_merge 57 = .ok (.iadd, 1) := by decide +kernel
theorem dX7_merge_58 : decode cX7_merge 58 = .ok (.iastore, 1) := by decide +kernel
theorem dX7_merge_59 : decode cX7_merge 59 = .ok (.goto 24, 3) := by decide +kernel
theorem dX7_merge_62 : decode cX7_merge 62 = .ok (.aload_n 0, 1) := by decide +kernel
theorem dX7_merge_63 : decode cX7_merge 63 = .ok (.getfield 38, 3) := by decide +kernel
theorem dX7_merge_66 : decode cX7_merge 66 = .ok (.bipush 6, 2) := by decide +kernel
theorem dX7_merge_68 : decode cX7_merge 68 = .ok (.iload_n 1, 1) := by decide +kernel
theorem dX7_merge_69 : decode cX7_merge 69 = .ok (.imul, 1) := by decide +kernel
theorem dX7_merge_70 : decode cX7_merge 70 = .ok (.iload_n 3, 1) := by decide +kernel
theorem dX7_merge_71 : decode cX7_merge 71 = .ok (.iadd, 1) := by decide +kernel
theorem dX7_merge_72 : decode cX7_merge 72 = .ok (.aload_n 0, 1) := by decide +kernel
theorem dX7_merge_73 : decode cX7_merge 73 = .ok (.getfield 41, 3) := by decide +kernel
theorem dX7_merge_76 : decode cX7_merge 76 = .ok (.iload_n 1, 1) := by decide +kernel
theorem dX7_merge_77 : decode cX7_merge 77 = .ok (.iaload, 1) := by decide +kernel
theorem dX7_merge_78 : decode cX7_merge 78 = .ok (.isub, 1) := by decide +kernel
theorem dX7_merge_79 : decode cX7_merge 79 = .ok (.iload_n 2, 1) := by decide +kernel
theorem dX7_merge_80 : decode cX7_merge 80 = .ok (.iconst 1, 1) := by decide +kernel
theorem dX7_merge_81 : decode cX7_merge 81 = .ok (.iadd, 1) := by decide +kernel
theorem dX7_merge_82 : decode cX7_merge 82 = .ok (.iastore, 1) := by decide +kernel
theorem dX7_merge_83 : decode cX7_merge 83 = .ok (.return_, 1) := by decide +kernel
theorem dX7_merges_0 : decode cX7_merges 0 = .ok (.iconst 0, 1) := by decide +kernel
theorem dX7_merges_1 : decode cX7_merges 1 = .ok (.istore_n 2, 1) := by decide +kernel
theorem dX7_merges_2 : decode cX7_merges 2 = .ok (.iload_n 2, 1) := by decide +kernel
theorem dX7_merges_3 : decode cX7_merges 3 = .ok (.bipush 18, 2) := by decide +kernel
theorem dX7_merges_5 : decode cX7_merges 5 = .ok (.if_icmp .ge 60, 3) := by decide +kernel
theorem dX7_merges_8 : decode cX7_merges 8 = .ok (.bipush 10, 2) := by decide +kernel
theorem dX7_merges_10 : decode cX7_merges 10 = .ok (.iload_n 2, 1) := by decide +kernel
theorem dX7_merges_11 : decode cX7_merges 11 = .ok (.iconst 2, 1) := by decide +kernel
theorem dX7_merges_12 : decode cX7_merges 12 = .ok (.idiv, 1) := by decide +kernel
theorem dX7_merges_13 : decode cX7_merges 13 = .ok (.imul, 1) := by decide +kernel
theorem dX7_merges_14 : decode cX7_merges 14 = .ok (.iconst 1, 1) := by decide +kernel
theorem dX7_merges_15 : decode cX7_merges 15 = .ok (.iadd, 1) := by decide +kernel
theorem dX7_merges_16 : decode cX7_merges 16 = .ok (.iload_n 2, 1) := by decide +kernel
theorem dX7_merges_17 : decode cX7_merges 17 = .ok (.iconst 2, 1) := by decide +kernel
theorem dX7_merges_18 : decode cX7_merges 18 = .ok (.irem, 1) := by decide +kernel
theorem dX7_merges_19 : decode cX7_merges 19 = .ok (.iadd, 1) := by decide +kernel
theorem dX7_merges_20 : decode cX7_merges 20 = .ok (.istore_n 3, 1) := by decide +kernel
theorem dX7_merges_21 : decode cX7_merges 21 = .ok (.aload_n 0, 1) := by decide +kernel
theorem dX7_merges_22 : decode cX7_merges 22 = .ok (.iload_n 1, 1) := by decide +kernel
theorem dX7_merges_23 : decode cX7_merges 23 = .ok (.iload_n 3, 1) := by decide +kernel
theorem dX7_merges_24 : decode cX7_merges 24 = .ok (.invokevirtual 106, 3) := by decide +kernel
theorem dX7_merges_27 : decode cX7_merges 27 = .ok (.iconst 2, 1) := by decide +kernel
theorem dX7_merges_28 : decode cX7_merges 28 = .ok (.if_icmp .le 7, 3) := by decide +kernel
theorem dX7_merges_31 : decode cX7_merges 31 = .ok (.iconst 1, 1) := by decide +kernel
theorem dX7_merges_32 : decode cX7_merges 32 = .ok (.goto 4, 3) := by decide +kernel
theorem dX7_merges_35 : decode cX7_merges 35 = .ok (.iconst 0, 1) := by decide +kernel
theorem dX7_merges_36 : decode cX7_merges 36 = .ok (.istore 4, 2) := by decide +kernel
theorem dX7_merges_38 : decode cX7_merges 38 = .ok (.iload 4, 2) := by decide +kernel
theorem dX7_merges_40 : decode cX7_merges 40 = .ok (.ifCond .eq 9, 3) := by decide +kernel
theorem dX7_merges_43 : decode cX7_merges 43 = .ok (.aload_n 0, 1) := by decide +kernel
theorem dX7_merges_44 : decode cX7_merges 44 = .ok (.iload_n 1, 1) := by decide +kernel
theorem dX7_merges_45 : decode cX7_merges 45 = .ok (.iload_n 3, 1) := by decide +kernel
theorem dX7_merges_46 : decode cX7_merges 46 = .ok (.invokevirtual 110, 3) := by decide +kernel
theorem dX7_merges_49 : decode cX7_merges 49 = .ok (.iload 4, 2) := by decide +kernel
theorem dX7_merges_51 : decode cX7_merges 51 = .ok (.ifCond .eq 7, 3) := by decide +kernel
theorem dX7_merges_54 : decode cX7_merges 54 = .ok (.iconst 0, 1) := by decide +kernel
theorem dX7_merges_55 : decode cX7_merges 55 = .ok (.goto 6, 3) := by decide +kernel
theorem dX7_merges_58 : decode cX7_merges 58 = .ok (.iload_n 2, 1) := by decide +kernel
theorem dX7_merges_59 : decode cX7_merges 59 = .ok (.iconst 1, 1) := by decide +kernel
theorem dX7_merges_60 : decode cX7_merges 60 = .ok (.iadd, 1) := by decide +kernel
theorem dX7_merges_61 : decode cX7_merges 61 = .ok (.istore_n 2, 1) := by decide +kernel
theorem dX7_merges_62 : decode cX7_merges 62 = .ok (.goto (-60), 3) := by decide +kernel
theorem dX7_merges_65 : decode cX7_merges 65 = .ok (.return_, 1) := by decide +kernel
theorem dX7_errorOfBuy_0 : decode cX7_errorOfBuy 0 = .ok (.iload_n 1, 1) := by decide +kernel
theorem dX7_errorOfBuy_1 : decode cX7_errorOfBuy 1 = .ok (.iload_n 2, 1) := by decide +kernel
theorem dX7_errorOfBuy_2 : decode cX7_errorOfBuy 2 = .ok (.invokestatic 113, 3) := by decide +kernel
theorem dX7_errorOfBuy_5 : decode cX7_errorOfBuy 5 = .ok (.ifCond .ne 5, 3) := by decide +kernel
theorem dX7_errorOfBuy_8 : decode cX7_errorOfBuy 8 = .ok (.iconst 1, 1) := by decide +kernel
theorem dX7_errorOfBuy_9 : decode cX7_errorOfBuy 9 = .ok (.ireturn, 1) := by decide +kernel
theorem dX7_errorOfBuy_10 : decode cX7_errorOfBuy 10 = .ok (.aload_n 0, 1) := by decide +kernel
theorem dX7_errorOfBuy_11 : decode cX7_errorOfBuy 11 = .ok (.getfield 28, 3) := by decide +kernel
theorem dX7_errorOfBuy_14 : decode cX7_errorOfBuy 14 = .ok (.iconst 3, 1) := by decide +kernel
theorem dX7_errorOfBuy_15 : decode cX7_errorOfBuy 15 = .ok (.iload_n 1, 1) := by decide +kernel
theorem dX7_errorOfBuy_16 : decode cX7_errorOfBuy 16 = .ok (.imul, 1) := by decide +kernel
theorem dX7_errorOfBuy_17 : decode cX7_errorOfBuy 17 = .ok (.iload_n 2, 1) := by decide +kernel
theorem dX7_errorOfBuy_18 : decode cX7_errorOfBuy 18 = .ok (.iadd, 1) := by decide +kernel
theorem dX7_errorOfBuy_19 : decode cX7_errorOfBuy 19 = .ok (.iaload, 1) := by decide +kernel
theorem dX7_errorOfBuy_20 : decode cX7_errorOfBuy 20 = .ok (.istore_n 3, 1) := by decide +kernel
theorem dX7_errorOfBuy_21 : decode cX7_errorOfBuy 21 = .ok (.iload_n 3, 1) := by decide +kernel
theorem dX7_errorOfBuy_22 : decode cX7_errorOfBuy 22 = .ok (.iconst (-1), 1) := by decide +kernel
theorem dX7_errorOfBuy_23 : decode cX7_errorOfBuy 23 = .ok (.if_icmp .ne 7, 3) := by decide +kernel
theorem dX7_errorOfBuy_26 : decode cX7_errorOfBuy 26 = .ok (.iconst 2, 1) := by decide +kernel
theorem dX7_errorOfBuy_27 : decode cX7_errorOfBuy 27 = .ok (.goto 32, 3) := by decide +kernel
theorem dX7_errorOfBuy_30 : decode cX7_errorOfBuy 30 = .ok (.aload_n 0, 1) := by decide +kernel
theorem dX7_errorOfBuy_31 : decode cX7_errorOfBuy 31 = .ok (.getfield 16, 3) := by decide +kernel
theorem dX7_errorOfBuy_34 : decode cX7_errorOfBuy 34 = .ok (.iload_n 1, 1) := by decide +kernel
theorem dX7_errorOfBuy_35 : decode cX7_errorOfBuy 35 = .ok (.iaload, 1) := by decide +kernel
theorem dX7_errorOfBuy_36 : decode cX7_errorOfBuy 36 = .ok (.iload_n 3, 1) := by decide +kernel
theorem dX7_errorOfBuy_37 : decode cX7_errorOfBuy 37 = .ok (.invokestatic 81, 3) := by decide +kernel
theorem dX7_errorOfBuy_40 : decode cX7_errorOfBuy 40 = .ok (.if_icmp .lt 14, 3) := by decide +kernel
theorem dX7_errorOfBuy_43 : decode cX7_errorOfBuy 43 = .ok (.aload_n 0, 1) := by decide +kernel
theorem dX7_errorOfBuy_44 : decode cX7_errorOfBuy 44 = .ok (.getfield 35, 3) := by decide +kernel
theorem dX7_errorOfBuy_47 : decode cX7_errorOfBuy 47 = .ok (.iload_n 1, 1) := by decide +kernel
theorem dX7_errorOfBuy_48 : decode cX7_errorOfBuy 48 = .ok (.iaload, 1) := by decide +kernel
theorem dX7_errorOfBuy_49 : decode cX7_errorOfBuy 49 = .ok (.bipush 6, 2) := by decide +kernel
theorem dX7_errorOfBuy_51 : decode cX7_errorOfBuy 51 = .ok (.if_icmp .ne 7, 3) := by decide +kernel
theorem dX7_errorOfBuy_54 : decode cX7_errorOfBuy 54 = .ok (.iconst 3, 1) := by decide +kernel
theorem dX7_errorOfBuy_55 : decode cX7_errorOfBuy 55 = .ok (.goto 4, 3) := by decide +kernel
theorem dX7_errorOfBuy_58 : decode cX7_errorOfBuy 58 = .ok (.iconst 0, 1) := by decide +kernel
theorem dX7_errorOfBuy_59 : decode cX7_errorOfBuy 59 = .ok (.ireturn, 1) := by decide +kernel
theorem dX7_buy_0 : decode cX7_buy 0 = .ok (.aload_n 0, 1) := by decide +kernel
theorem dX7_buy_1 : decode cX7_buy 1 = .ok (.aload_n 0, 1) := by decide +kernel
theorem dX7_buy_2 : decode cX7_buy 2 = .ok (.iload_n 1, 1) := by decide +kernel
theorem dX7_buy_3 : decode cX7_buy 3 = .ok (.iload_n 2, 1) := by decide +kernel
theorem dX7_buy_4 : decode cX7_buy 4 = .ok (.invokevirtual 117, 3) := by decide +kernel
theorem dX7_buy_7 : decode cX7_buy 7 = .ok (.invokevirtual 71, 3) := by decide +kernel
theorem dX7_buy_10 : decode cX7_buy 10 = .ok (.ifCond .ne 5, 3) := by decide +kernel
theorem dX7_buy_13 : decode cX7_buy 13 = .ok (.iconst 0, 1) := by decide +kernel
theorem dX7_buy_14 : decode cX7_buy 14 = .ok (.ireturn, 1) := by decide +kernel
theorem dX7_buy_15 : decode cX7_buy 15 = .ok (.aload_n 0, 1) := by decide +kernel
theorem dX7_buy_16 : decode cX7_buy 16 = .ok (.getfield 28, 3) := by decide +kernel
theorem dX7_buy_19 : decode cX7_buy 19 = .ok (.iconst 3, 1) := by decide +kernel
theorem dX7_buy_20 : decode cX7_buy 20 = .ok (.iload_n 1, 1) := by decide +kernel
theorem dX7_buy_21 : decode cX7_buy 21 = .ok (.imul, 1) := by decide +kernel
theorem dX7_buy_22 : decode cX7_buy 22 = .ok (.iload_n 2, 1) := by decide +kernel
theorem dX7_buy_23 : decode cX7_buy 23 = .ok (.iadd, 1) := by decide +kernel
theorem dX7_buy_24 : decode cX7_buy 24 = .ok (.iaload, 1) := by decide +kernel
theorem dX7_buy_25 : decode cX7_buy 25 = .ok (.istore_n 3, 1) := by decide +kernel
theorem dX7_buy_26 : decode cX7_buy 26 = .ok (.aload_n 0, 1) := by decide +kernel
theorem dX7_buy_27 : decode cX7_buy 27 = .ok (.getfield 28, 3) := by decide +kernel
theorem dX7_buy_30 : decode cX7_buy 30 = .ok (.iconst 3, 1) := by decide +kernel
theorem dX7_buy_31 : decode cX7_buy 31 = .ok (.iload_n 1, 1) := by decide +kernel
theorem dX7_buy_32 : decode cX7_buy 32 = .ok (.imul, 1) := by decide +kernel
theorem dX7_buy_33 : decode cX7_buy 33 = .ok (.iload_n 2, 1) := by decide +kernel
theorem dX7_buy_34 : decode cX7_buy 34 = .ok (.iadd, 1) := by decide +kernel
theorem dX7_buy_35 : decode cX7_buy 35 = .ok (.iconst (-1), 1) := by decide +kernel
theorem dX7_buy_36 : decode cX7_buy 36 = .ok (.iastore, 1) := by decide +kernel
theorem dX7_buy_37 : decode cX7_buy 37 = .ok (.aload_n 0, 1) := by decide +kernel
theorem dX7_buy_38 : decode cX7_buy 38 = .ok (.getfield 16, 3) := by decide +kernel
theorem dX7_buy_41 : decode cX7_buy 41 = .ok (.iload_n 1, 1) := by decide +kernel
theorem dX7_buy_42 : decode cX7_buy 42 = .ok (.dup2, 1) := by decide +kernel
theorem dX7_buy_43 : decode cX7_buy 43 = .ok (.iaload, 1) := by decide +kernel
theorem dX7_buy_44 : decode cX7_buy 44 = .ok (.iload_n 3, 1) := by decide +kernel
theorem dX7_buy_45 : decode cX7_buy 45 = .ok (.invokestatic 81, 3) := by decide +kernel
theorem dX7_buy_48 : decode cX7_buy 48 = .ok (.isub, 1) := by decide +kernel
theorem dX7_buy_49 : decode cX7_buy 49 = .ok (.iastore, 1) := by decide +kernel
theorem dX7_buy_50 : decode cX7_buy 50 = .ok (.aload_n 0, 1) := by decide +kernel
theorem dX7_buy_51 : decode cX7_buy 51 = .ok (.getfield 38, 3) := by decide +kernel
theorem dX7_buy_54 : decode cX7_buy 54 = .ok (.bipush 6, 2) := by decide +kernel
theorem dX7_buy_56 : decode cX7_buy 56 = .ok (.iload_n 1, 1) := by decide +kernel
theorem dX7_buy_57 : decode cX7_buy 57 = .ok (.imul, 1) := by decide +kernel
theorem dX7_buy_58 : decode cX7_buy 58 = .ok (.aload_n 0, 1) := by decide +kernel
theorem dX7_buy_59 : decode cX7_buy 59 = .ok (.getfield 35, 3) := by decide +kernel
theorem dX7_buy_62 : decode cX7_buy 62 = .ok (.iload_n 1, 1) := by decide +kernel
theorem dX7_buy_63 : decode cX7_buy 63 = .ok (.iaload, 1) := by decide +kernel
theorem dX7_buy_64 : decode cX7_buy 64 = .ok (.iadd, 1) := by decide +kernel
theorem dX7_buy_65 : decode cX7_buy 65 = .ok (.bipush 10, 2) := by decide +kernel
theorem dX7_buy_67 : decode cX7_buy 67 = .ok (.iload_n 3, 1) := by decide +kernel
theorem dX7_buy_68 : decode cX7_buy 68 = .ok (.imul, 1) := by decide +kernel
theorem dX7_buy_69 : decode cX7_buy 69 = .ok (.iconst 1, 1) := by decide +kernel
theorem dX7_buy_70 : decode cX7_buy 70 = .ok (.iadd, 1) := by decide +kernel
theorem dX7_buy_71 : decode cX7_buy 71 = .ok (.iastore, 1) := by decide +kernel
theorem dX7_buy_72 : decode cX7_buy 72 = .ok (.aload_n 0, 1) := by decide +kernel
theorem dX7_buy_73 : decode cX7_buy 73 = .ok (.getfield 35, 3) := by decide +kernel
theorem dX7_buy_76 : decode cX7_buy 76 = .ok (.iload_n 1, 1) := by decide +kernel
theorem dX7_buy_77 : decode cX7_buy 77 = .ok (.dup2, 1) := by decide +kernel
theorem dX7_buy_78 : decode cX7_buy 78 = .ok (.iaload, 1) := by decide +kernel
theorem dX7_buy_79 : decode cX7_buy 79 = .ok (.iconst 1, 1) := by decide +kernel
theorem dX7_buy_80 : decode cX7_buy 80 = .ok (.iadd, 1) := by decide +kernel
theorem dX7_buy_81 : decode cX7_buy 81 = .ok (.iastore, 1) := by decide +kernel
theorem dX7_buy_82 : decode cX7_buy 82 = .ok (.aload_n 0, 1) := by decide +kernel
theorem dX7_buy_83 : decode cX7_buy 83 = .ok (.iload_n 1, 1) := by decide +kernel
theorem dX7_buy_84 : decode cX7_buy 84 = .ok (.invokevirtual 120, 3) := by decide +kernel
theorem dX7_buy_87 : decode cX7_buy 87 = .ok (.aload_n 0, 1) := by decide +kernel
theorem dX7_buy_88 : decode cX7_buy 88 = .ok (.getfield 16, 3) := by decide +kernel
theorem dX7_buy_91 : decode cX7_buy 91 = .ok (.iload_n 1, 1) := by decide +kernel
theorem dX7_buy_92 : decode cX7_buy 92 = .ok (.iaload, 1) := by decide +kernel
theorem dX7_buy_93 : decode cX7_buy 93 = .ok (.ireturn, 1) := by decide +kernel
theorem dX7_isOnBench_0 : decode cX7_isOnBench 0 = .ok (.iload_n 1, 1) := by decide +kernel
theorem dX7_isOnBench_1 : decode cX7_isOnBench 1 = .ok (.invokestatic 64, 3) := by decide +kernel
theorem dX7_isOnBench_4 : decode cX7_isOnBench 4 = .ok (.ifCond .eq 23, 3) := by decide +kernel
theorem dX7_isOnBench_7 : decode cX7_isOnBench 7 = .ok (.iload_n 2, 1) := by decide +kernel
theorem dX7_isOnBench_8 : decode cX7_isOnBench 8 = .ok (.iconst 0, 1) := by decide +kernel
theorem dX7_isOnBench_9 : decode cX7_isOnBench 9 = .ok (.aload_n 0, 1) := by decide +kernel
theorem dX7_isOnBench_10 : decode cX7_isOnBench 10 = .ok (.getfield 35, 3) := by decide +kernel
theorem dX7_isOnBench_13 : decode cX7_isOnBench 13 = .ok (.iload_n 1, 1) := by decide +kernel
theorem dX7_isOnBench_14 : decode cX7_isOnBench 14 = .ok (.iaload, 1) := by decide +kernel
theorem dX7_isOnBench_15 : decode cX7_isOnBench 15 = .ok (.iconst 1, 1) := by decide +kernel
theorem dX7_isOnBench_16 : decode cX7_isOnBench 16 = .ok (.isub, 1) := by decide +kernel
theorem dX7_isOnBench_17 : decode cX7_isOnBench 17 = .ok (.invokestatic 60, 3) := by decide +kernel
theorem dX7_isOnBench_20 : decode cX7_isOnBench 20 = .ok (.ifCond .eq 7, 3) := by decide +kernel
theorem dX7_isOnBench_23 : decode cX7_isOnBench 23 = .ok (.iconst 1, 1) := by decide +kernel
theorem dX7_isOnBench_24 : decode cX7_isOnBench 24 = .ok (.goto 4, 3) := by decide +kernel
theorem dX7_isOnBench_27 : decode cX7_isOnBench 27 = .ok (.iconst 0, 1) := by decide +kernel
theorem dX7_isOnBench_28 : decode cX7_isOnBench 28 = .ok (.ireturn, 1) := by decide +kernel
theorem dX7_isOnBoard_0 : decode cX7_isOnBoard 0 = .ok (.iload_n 1, 1) := by decide +kernel
theorem dX7_isOnBoard_1 : decode cX7_isOnBoard 1 = .ok (.invokestatic 64, 3) := by decide +kernel
theorem dX7_isOnBoard_4 : decode cX7_isOnBoard 4 = .ok (.ifCond .eq 23, 3) := by decide +kernel
theorem dX7_isOnBoard_7 : decode cX7_isOnBoard 7 = .ok (.iload_n 2, 1) := by decide +kernel
theorem dX7_isOnBoard_8 : decode cX7_isOnBoard 8 = .ok (.iconst 0, 1) := by decide +kernel
theorem dX7_isOnBoard_9 : decode cX7_isOnBoard 9 = .ok (.aload_n 0, 1) := by decide +kernel
theorem dX7_isOnBoard_10 : decode cX7_isOnBoard 10 = .ok (.getfield 41, 3) := by decide +kernel
theorem dX7_isOnBoard_13 : decode cX7_isOnBoard 13 = .ok (.iload_n 1, 1) := by decide +kernel
theorem dX7_isOnBoard_14 : decode cX7_isOnBoard 14 = .ok (.iaload, 1) := by decide +kernel
theorem dX7_isOnBoard_15 : decode cX7_isOnBoard 15 = .ok (.iconst 1, 1) := by decide +kernel
theorem dX7_isOnBoard_16 : decode cX7_isOnBoard 16 = .ok (.isub, 1) := by decide +kernel
theorem dX7_isOnBoard_17 : decode cX7_isOnBoard 17 = .ok (.invokestatic 60, 3) := by decide +kernel
theorem dX7_isOnBoard_20 : decode cX7_isOnBoard 20 = .ok (.ifCond .eq 7, 3) := by decide +kernel
theorem dX7_isOnBoard_23 : decode cX7_isOnBoard 23 = .ok (.iconst 1, 1) := by decide +kernel
theorem dX7_isOnBoard_24 : decode cX7_isOnBoard 24 = .ok (.goto 4, 3) := by decide +kernel
theorem dX7_isOnBoard_27 : decode cX7_isOnBoard 27 = .ok (.iconst 0, 1) := by decide +kernel
theorem dX7_isOnBoard_28 : decode cX7_isOnBoard 28 = .ok (.ireturn, 1) := by decide +kernel
theorem dX7_sell_0 : decode cX7_sell 0 = .ok (.aload_n 0, 1) := by decide +kernel
theorem dX7_sell_1 : decode cX7_sell 1 = .ok (.aload_n 0, 1) := by decide +kernel
theorem dX7_sell_2 : decode cX7_sell 2 = .ok (.iload_n 1, 1) := by decide +kernel
theorem dX7_sell_3 : decode cX7_sell 3 = .ok (.iload_n 2, 1) := by decide +kernel
theorem dX7_sell_4 : decode cX7_sell 4 = .ok (.invokevirtual 123, 3) := by decide +kernel
theorem dX7_sell_7 : decode cX7_sell 7 = .ok (.ifCond .eq 7, 3) := by decide +kernel
theorem dX7_sell_10 : decode cX7_sell 10 = .ok (.iconst 0, 1) := by decide +kernel
theorem dX7_sell_11 : decode cX7_sell 11 = .ok (.goto 4, 3) := by decide +kernel
theorem dX7_sell_14 : decode cX7_sell 14 = .ok (.iconst 1, 1) := by decide +kernel
theorem dX7_sell_15 : decode cX7_sell 15 = .ok (.invokevirtual 71, 3) := by decide +kernel
theorem dX7_sell_18 : decode cX7_sell 18 = .ok (.ifCond .ne 5, 3) := by decide +kernel
theorem dX7_sell_21 : decode cX7_sell 21 = .ok (.iconst 0, 1) := by decide +kernel
theorem dX7_sell_22 : decode cX7_sell 22 = .ok (.ireturn, 1) := by decide +kernel
theorem dX7_sell_23 : decode cX7_sell 23 = .ok (.aload_n 0, 1) := by decide +kernel
theorem dX7_sell_24 : decode cX7_sell 24 = .ok (.getfield 38, 3) := by decide +kernel
theorem dX7_sell_27 : decode cX7_sell 27 = .ok (.bipush 6, 2) := by decide +kernel
theorem dX7_sell_29 : decode cX7_sell 29 = .ok (.iload_n 1, 1) := by decide +kernel
theorem dX7_sell_30 : decode cX7_sell 30 = .ok (.imul, 1) := by decide +kernel
theorem dX7_sell_31 : decode cX7_sell 31 = .ok (.iload_n 2, 1) := by decide +kernel
theorem dX7_sell_32 : decode cX7_sell 32 = .ok (.iadd, 1) := by decide +kernel
theorem dX7_sell_33 : decode cX7_sell 33 = .ok (.iaload, 1) := by decide +kernel
theorem dX7_sell_34 : decode cX7_sell 34 = .ok (.istore_n 3, 1) := by decide +kernel
theorem dX7_sell_35 : decode cX7_sell 35 = .ok (.iload_n 3, 1) := by decide +kernel
theorem dX7_sell_36 : decode cX7_sell 36 = .ok (.bipush 10, 2) := by decide +kernel
theorem dX7_sell_38 : decode cX7_sell 38 = .ok (.irem, 1) := by decide +kernel
theorem dX7_sell_39 : decode cX7_sell 39 = .ok (.invokestatic 126, 3) := by decide +kernel
theorem dX7_sell_42 : decode cX7_sell 42 = .ok (.istore 4, 2) := by decide +kernel
theorem dX7_sell_44 : decode cX7_sell 44 = .ok (.aload_n 0, 1) := by decide +kernel
theorem dX7_sell_45 : decode cX7_sell 45 = .ok (.iload_n 1, 1) := by decide +kernel
theorem dX7_sell_46 : decode cX7_sell 46 = .ok (.iload_n 2, 1) := by decide +kernel
theorem dX7_sell_47 : decode cX7_sell 47 = .ok (.invokevirtual 96, 3) := by decide +kernel
theorem dX7_sell_50 : decode cX7_sell 50 = .ok (.aload_n 0, 1) := by decide +kernel
theorem dX7_sell_51 : decode cX7_sell 51 = .ok (.getfield 13, 3) := by decide +kernel
theorem dX7_sell_54 : decode cX7_sell 54 = .ok (.iload_n 3, 1) := by decide +kernel
theorem dX7_sell_55 : decode cX7_sell 55 = .ok (.bipush 10, 2) := by decide +kernel
theorem dX7_sell_57 : decode cX7_sell 57 = .ok (.idiv, 1) := by decide +kernel
theorem dX7_sell_58 : decode cX7_sell 58 = .ok (.dup2, 1) := by decide +kernel
theorem dX7_sell_59 : decode cX7_sell 59 = .ok (.iaload, 1) := by decide +kernel
theorem dX7_sell_60 : decode cX7_sell 60 = .ok (.iload 4, 2) := by decide +kernel
theorem dX7_sell_62 : decode cX7_sell 62 = .ok (.iadd, 1) := by decide +kernel
theorem dX7_sell_63 : decode cX7_sell 63 = .ok (.iastore, 1) := by decide +kernel
theorem dX7_sell_64 : decode cX7_sell 64 = .ok (.aload_n 0, 1) := by decide +kernel
theorem dX7_sell_65 : decode cX7_sell 65 = .ok (.getfield 16, 3) := by decide +kernel
theorem dX7_sell_68 : decode cX7_sell 68 = .ok (.iload_n 1, 1) := by decide +kernel
theorem dX7_sell_69 : decode cX7_sell 69 = .ok (.aload_n 0, 1) := by decide +kernel
theorem dX7_sell_70 : decode cX7_sell 70 = .ok (.getfield 16, 3) := by decide +kernel
theorem dX7_sell_73 : decode cX7_sell 73 = .ok (.iload_n 1, 1) := by decide +kernel
theorem dX7_sell_74 : decode cX7_sell 74 = .ok (.iaload, 1) := by decide +kernel
theorem dX7_sell_75 : decode cX7_sell 75 = .ok (.iload_n 3, 1) := by decide +kernel
theorem dX7_sell_76 : decode cX7_sell 76 = .ok (.bipush 10, 2) := by decide +kernel
theorem dX7_sell_78 : decode cX7_sell 78 = .ok (.idiv, 1) := by decide +kernel
theorem dX7_sell_79 : decode cX7_sell 79 = .ok (.invokestatic 81, 3) := by decide +kernel
theorem dX7_sell_82 : decode cX7_sell 82 = .ok (.iload 4, 2) := by decide +kernel
theorem dX7_sell_84 : decode cX7_sell 84 = .ok (.imul, 1) := by decide +kernel
theorem dX7_sell_85 : decode cX7_sell 85 = .ok (.iadd, 1) := by decide +kernel
theorem dX7_sell_86 : decode cX7_sell 86 = .ok (.bipush 100, 2) := by decide +kernel
theorem dX7_sell_88 : decode cX7_sell 88 = .ok (.invokestatic 129, 3) := by decide +kernel
theorem dX7_sell_91 : decode cX7_sell 91 = .ok (.iastore, 1) := by decide +kernel
theorem dX7_sell_92 : decode cX7_sell 92 = .ok (.aload_n 0, 1) := by decide +kernel
theorem dX7_sell_93 : decode cX7_sell 93 = .ok (.getfield 16, 3) := by decide +kernel
theorem dX7_sell_96 : decode cX7_sell 96 = .ok (.iload_n 1, 1) := by decide +kernel
theorem dX7_sell_97 : decode cX7_sell 97 = .ok (.iaload, 1) := by decide +kernel
theorem dX7_sell_98 : decode cX7_sell 98 = .ok (.ireturn, 1) := by decide +kernel
theorem dX7_toBoard_0 : decode cX7_toBoard 0 = .ok (.aload_n 0, 1) := by decide +kernel
theorem dX7_toBoard_1 : decode cX7_toBoard 1 = .ok (.iload_n 1, 1) := by decide +kernel
theorem dX7_toBoard_2 : decode cX7_toBoard 2 = .ok (.iload_n 2, 1) := by decide +kernel
theorem dX7_toBoard_3 : decode cX7_toBoard 3 = .ok (.invokevirtual 123, 3) := by decide +kernel
theorem dX7_toBoard_6 : decode cX7_toBoard 6 = .ok (.istore_n 3, 1) := by decide +kernel
theorem dX7_toBoard_7 : decode cX7_toBoard 7 = .ok (.aload_n 0, 1) := by decide +kernel
theorem dX7_toBoard_8 : decode cX7_toBoard 8 = .ok (.iload_n 3, 1) := by decide +kernel
theorem dX7_toBoard_9 : decode cX7_toBoard 9 = .ok (.ifCond .ne 7, 3) := by decide +kernel
theorem dX7_toBoard_12 : decode cX7_toBoard 12 = .ok (.iconst 1, 1) := by decide +kernel
theorem dX7_toBoard_13 : decode cX7_toBoard 13 = .ok (.goto 23, 3) := by decide +kernel
theorem dX7_toBoard_16 : decode cX7_toBoard 16 = .ok (.aload_n 0, 1) := by decide +kernel
theorem dX7_toBoard_17 : decode cX7_toBoard 17 = .ok (.getfield 41, 3) := by decide +kernel
theorem dX7_toBoard_20 : decode cX7_toBoard 20 = .ok (.iload_n 1, 1) := by decide +kernel
theorem dX7_toBoard_21 : decode cX7_toBoard 21 = .ok (.iaload, 1) := by decide +kernel
theorem dX7_toBoard_22 : decode cX7_toBoard 22 = .ok (.aload_n 0, 1) := by decide +kernel
theorem dX7_toBoard_23 : decode cX7_toBoard 23 = .ok (.getfield 19, 3) := by decide +kernel
theorem dX7_toBoard_26 : decode cX7_toBoard 26 = .ok (.iload_n 1, 1) := by decide +kernel
theorem dX7_toBoard_27 : decode cX7_toBoard 27 = .ok (.iaload, 1) := by decide +kernel
theorem dX7_toBoard_28 : decode cX7_toBoard 28 = .ok (.if_icmp .ne 7, 3) := by decide +kernel
theorem dX7_toBoard_31 : decode cX7_toBoard 31 = .ok (.iconst 2, 1) := by decide +kernel
theorem dX7_toBoard_32 : decode cX7_toBoard 32 = .ok (.goto 4, 3) := by decide +kernel
theorem dX7_toBoard_35 : decode cX7_toBoard 35 = .ok (.iconst 0, 1) := by decide +kernel
theorem dX7_toBoard_36 : decode cX7_toBoard 36 = .ok (.invokevirtual 71, 3) := by decide +kernel
theorem dX7_toBoard_39 : decode cX7_toBoard 39 = .ok (.ifCond .ne 5, 3) := by decide +kernel
theorem dX7_toBoard_42 : decode cX7_toBoard 42 = .ok (.iconst 0, 1) := by decide +kernel
theorem dX7_toBoard_43 : decode cX7_toBoard 43 = .ok (.ireturn, 1) := by decide +kernel
theorem dX7_toBoard_44 : decode cX7_toBoard 44 = .ok (.aload_n 0, 1) := by decide +kernel
theorem dX7_toBoard_45 : decode cX7_toBoard 45 = .ok (.getfield 38, 3) := by decide +kernel
theorem dX7_toBoard_48 : decode cX7_toBoard 48 = .ok (.bipush 6, 2) := by decide +kernel
theorem dX7_toBoard_50 : decode cX7_toBoard 50 = .ok (.iload_n 1, 1) := by decide +kernel
theorem dX7_toBoard_51 : decode cX7_toBoard 51 = .ok (.imul, 1) := by decide +kernel
theorem dX7_toBoard_52 : decode cX7_toBoard 52 = .ok (.iload_n 2, 1) := by decide +kernel
theorem dX7_toBoard_53 : decode cX7_toBoard 53 = .ok (.iadd, 1) := by decide +kernel
theorem dX7_toBoard_54 : decode cX7_toBoard 54 = .ok (.iaload, 1) := by decide +kernel
theorem dX7_toBoard_55 : decode cX7_toBoard 55 = .ok (.istore 4, 2) := by decide +kernel
theorem dX7_toBoard_57 : decode cX7_toBoard 57 = .ok (.aload_n 0, 1) := by decide +kernel
theorem dX7_toBoard_58 : decode cX7_toBoard 58 = .ok (.iload_n 1, 1) := by decide +kernel
theorem dX7_toBoard_59 : decode cX7_toBoard 59 = .ok (.iload_n 2, 1) := by decide +kernel
theorem dX7_toBoard_60 : decode cX7_toBoard 60 = .ok (.invokevirtual 96, 3) := by decide +kernel
theorem dX7_toBoard_63 : decode cX7_toBoard 63 = .ok (.aload_n 0, 1) := by decide +kernel
theorem dX7_toBoard_64 : decode cX7_toBoard 64 = .ok (.getfield 44, 3) := by decide +kernel
theorem dX7_toBoard_67 : decode cX7_toBoard 67 = .ok (.iconst 5, 1) := by decide +kernel
theorem dX7_toBoard_68 : decode cX7_toBoard 68 = .ok (.iload_n 1, 1) := by decide +kernel
theorem dX7_toBoard_69 : decode cX7_toBoard 69 = .ok (.imul, 1) := by decide +kernel
theorem dX7_toBoard_70 : decode cX7_toBoard 70 = .ok (.aload_n 0, 1) := by decide +kernel
theorem dX7_toBoard_71 : decode cX7_toBoard 71 = .ok (.getfield 41, 3) := by decide +kernel
theorem dX7_toBoard_74 : decode cX7_toBoard 74 = .ok (.iload_n 1, 1) := by decide +kernel
theorem dX7_toBoard_75 : decode cX7_toBoard 75 = .ok (.iaload, 1) := by decide +kernel
theorem dX7_toBoard_76 : decode cX7_toBoard 76 = .ok (.iadd, 1) := by decide +kernel
theorem dX7_toBoard_77 : decode cX7_toBoard 77 = .ok (.iload 4, 2) := by decide +kernel
theorem dX7_toBoard_79 : decode cX7_toBoard 79 = .ok (.iastore, 1) := by decide +kernel
theorem dX7_toBoard_80 : decode cX7_toBoard 80 = .ok (.aload_n 0, 1) := by decide +kernel
theorem dX7_toBoard_81 : decode cX7_toBoard 81 = .ok (.getfield 41, 3) := by decide +kernel
theorem dX7_toBoard_84 : decode cX7_toBoard 84 = .ok (.iload_n 1, 1) := by decide +kernel
theorem dX7_toBoard_85 : decode cX7_toBoard 85 = .ok (.dup2, 1) := by decide +kernel
theorem dX7_toBoard_86 : decode cX7_toBoard 86 = .ok (.iaload, 1) := by decide +kernel
theorem dX7_toBoard_87 : decode cX7_toBoard 87 = .ok (.iconst 1, 1) := by decide +kernel
theorem dX7_toBoard_88 : decode cX7_toBoard 88 = .ok (.iadd, 1) := by decide +kernel
theorem dX7_toBoard_89 : decode cX7_toBoard 89 = .ok (.iastore, 1) := by decide +kernel
theorem dX7_toBoard_90 : decode cX7_toBoard 90 = .ok (.aload_n 0, 1) := by decide +kernel
theorem dX7_toBoard_91 : decode cX7_toBoard 91 = .ok (.getfield 41, 3) := by decide +kernel
theorem dX7_toBoard_94 : decode cX7_toBoard 94 = .ok (.iload_n 1, 1) := by decide +kernel
theorem dX7_toBoard_95 : decode cX7_toBoard 95 = .ok (.iaload, 1) := by decide +kernel
theorem dX7_toBoard_96 : decode cX7_toBoard 96 = .ok (.ireturn, 1) := by decide +kernel
theorem dX7_toBench_0 : decode cX7_toBench 0 = .ok (.aload_n 0, 1) := by decide +kernel
theorem dX7_toBench_1 : decode cX7_toBench 1 = .ok (.iload_n 1, 1) := by decide +kernel
theorem dX7_toBench_2 : decode cX7_toBench 2 = .ok (.iload_n 2, 1) := by decide +kernel
theorem dX7_toBench_3 : decode cX7_toBench 3 = .ok (.invokevirtual 132, 3) := by decide +kernel
theorem dX7_toBench_6 : decode cX7_toBench 6 = .ok (.istore_n 3, 1) := by decide +kernel
theorem dX7_toBench_7 : decode cX7_toBench 7 = .ok (.aload_n 0, 1) := by decide +kernel
theorem dX7_toBench_8 : decode cX7_toBench 8 = .ok (.iload_n 3, 1) := by decide +kernel
theorem dX7_toBench_9 : decode cX7_toBench 9 = .ok (.ifCond .ne 7, 3) := by decide +kernel
theorem dX7_toBench_12 : decode cX7_toBench 12 = .ok (.iconst 1, 1) := by decide +kernel
theorem dX7_toBench_13 : decode cX7_toBench 13 = .ok (.goto 19, 3) := by decide +kernel
theorem dX7_toBench_16 : decode cX7_toBench 16 = .ok (.aload_n 0, 1) := by decide +kernel
theorem dX7_toBench_17 : decode cX7_toBench 17 = .ok (.getfield 35, 3) := by decide +kernel
theorem dX7_toBench_20 : decode cX7_toBench 20 = .ok (.iload_n 1, 1) := by decide +kernel
theorem dX7_toBench_21 : decode cX7_toBench 21 = .ok (.iaload, 1) := by decide +kernel
theorem dX7_toBench_22 : decode cX7_toBench 22 = .ok (.bipush 6, 2) := by decide +kernel
theorem dX7_toBench_24 : decode cX7_toBench 24 = .ok (.if_icmp .ne 7, 3) := by decide +kernel
theorem dX7_toBench_27 : decode cX7_toBench 27 = .ok (.iconst 2, 1) := by decide +kernel
theorem dX7_toBench_28 : decode cX7_toBench 28 = .ok (.goto 4, 3) := by decide +kernel
theorem dX7_toBench_31 : decode cX7_toBench 31 = .ok (.iconst 0, 1) := by decide +kernel
theorem dX7_toBench_32 : decode cX7_toBench 32 = .ok (.invokevirtual 71, 3) := by decide +kernel
theorem dX7_toBench_35 : decode cX7_toBench 35 = .ok (.ifCond .ne 5, 3) := by decide +kernel
theorem dX7_toBench_38 : decode cX7_toBench 38 = .ok (.iconst 0, 1) := by decide +kernel
theorem dX7_toBench_39 : decode cX7_toBench 39 = .ok (.ireturn, 1) := by decide +kernel
theorem dX7_toBench_40 : decode cX7_toBench 40 = .ok (.aload_n 0, 1) := by decide +kernel
theorem dX7_toBench_41 : decode cX7_toBench 41 = .ok (.getfield 44, 3) := by decide +kernel
theorem dX7_toBench_44 : decode cX7_toBench 44 = .ok (.iconst 5, 1) := by decide +kernel
theorem dX7_toBench_45 : decode cX7_toBench 45 = .ok (.iload_n 1, 1) := by decide +kernel
theorem dX7_toBench_46 : decode cX7_toBench 46 = .ok (.imul, 1) := by decide +kernel
theorem dX7_toBench_47 : decode cX7_toBench 47 = .ok (.iload_n 2, 1) := by decide +kernel
theorem dX7_toBench_48 : decode cX7_toBench 48 = .ok (.iadd, 1) := by decide +kernel
theorem dX7_toBench_49 : decode cX7_toBench 49 = .ok (.iaload, 1) := by decide +kernel
theorem dX7_toBench_50 : decode cX7_toBench 50 = .ok (.istore 4, 2) := by decide +kernel
theorem dX7_toBench_52 : decode cX7_toBench 52 = .ok (.aload_n 0, 1) := by decide +kernel
theorem dX7_toBench_53 : decode cX7_toBench 53 = .ok (.iload_n 1, 1) := by decide +kernel
theorem dX7_toBench_54 : decode cX7_toBench 54 = .ok (.iload_n 2, 1) := by decide +kernel
theorem dX7_toBench_55 : decode cX7_toBench 55 = .ok (.invokevirtual 93, 3) := by decide +kernel
theorem dX7_toBench_58 : decode cX7_toBench 58 = .ok (.aload_n 0, 1) := by decide +kernel
theorem dX7_toBench_59 : decode cX7_toBench 59 = .ok (.getfield 38, 3) := by decide +kernel
theorem dX7_toBench_62 : decode cX7_toBench 62 = .ok (.bipush 6, 2) := by decide +kernel
theorem dX7_toBench_64 : decode cX7_toBench 64 = .ok (.iload_n 1, 1) := by decide +kernel
theorem dX7_toBench_65 : decode cX7_toBench 65 = .ok (.imul, 1) := by decide +kernel
theorem dX7_toBench_66 : decode cX7_toBench 66 = .ok (.aload_n 0, 1) := by decide +kernel
theorem dX7_toBench_67 : decode cX7_toBench 67 = .ok (.getfield 35, 3) := by decide +kernel
theorem dX7_toBench_70 : decode cX7_toBench 70 = .ok (.iload_n 1, 1) := by decide +kernel
theorem dX7_toBench_71 : decode cX7_toBench 71 = .ok (.iaload, 1) := by decide +kernel
theorem dX7_toBench_72 : decode cX7_toBench 72 = .ok (.iadd, 1) := by decide +kernel
theorem dX7_toBench_73 : decode cX7_toBench 73 = .ok (.iload 4, 2) := by decide +kernel
theorem dX7_toBench_75 : decode cX7_toBench 75 = .ok (.iastore, 1) := by decide +kernel
theorem dX7_toBench_76 : decode cX7_toBench 76 = .ok (.aload_n 0, 1) := by decide +kernel
theorem dX7_toBench_77 : decode cX7_toBench 77 = .ok (.getfield 35, 3) := by decide +kernel
theorem dX7_toBench_80 : decode cX7_toBench 80 = .ok (.iload_n 1, 1) := by decide +kernel
theorem dX7_toBench_81 : decode cX7_toBench 81 = .ok (.dup2, 1) := by decide +kernel
theorem dX7_toBench_82 : decode cX7_toBench 82 = .ok (.iaload, 1) := by decide +kernel
theorem dX7_toBench_83 : decode cX7_toBench 83 = .ok (.iconst 1, 1) := by decide +kernel
theorem dX7_toBench_84 : decode cX7_toBench 84 = .ok (.iadd, 1) := by decide +kernel
theorem dX7_toBench_85 : decode cX7_toBench 85 = .ok (.iastore, 1) := by decide +kernel
theorem dX7_toBench_86 : decode cX7_toBench 86 = .ok (.aload_n 0, 1) := by decide +kernel
theorem dX7_toBench_87 : decode cX7_toBench 87 = .ok (.iload_n 1, 1) := by decide +kernel
theorem dX7_toBench_88 : decode cX7_toBench 88 = .ok (.invokevirtual 120, 3) := by decide +kernel
theorem dX7_toBench_91 : decode cX7_toBench 91 = .ok (.aload_n 0, 1) := by decide +kernel
theorem dX7_toBench_92 : decode cX7_toBench 92 = .ok (.getfield 35, 3) := by decide +kernel
theorem dX7_toBench_95 : decode cX7_toBench 95 = .ok (.iload_n 1, 1) := by decide +kernel
theorem dX7_toBench_96 : decode cX7_toBench 96 = .ok (.iaload, 1) := by decide +kernel
theorem dX7_toBench_97 : decode cX7_toBench 97 = .ok (.ireturn, 1) := by decide +kernel
theorem dX7_blowOf_0 : decode cX7_blowOf 0 = .ok (.aload_n 0, 1) := by decide +kernel
theorem dX7_blowOf_1 : decode cX7_blowOf 1 = .ok (.getfield 44, 3) := by decide +kernel
theorem dX7_blowOf_4 : decode cX7_blowOf 4 = .ok (.iconst 5, 1) := by decide +kernel
theorem dX7_blowOf_5 : decode cX7_blowOf 5 = .ok (.iload_n 1, 1) := by decide +kernel
theorem dX7_blowOf_6 : decode cX7_blowOf 6 = .ok (.imul, 1) := by decide +kernel
theorem dX7_blowOf_7 : decode cX7_blowOf 7 = .ok (.iload_n 2, 1) := by decide +kernel
theorem dX7_blowOf_8 : decode cX7_blowOf 8 = .ok (.iadd, 1) := by decide +kernel
theorem dX7_blowOf_9 : decode cX7_blowOf 9 = .ok (.iaload, 1) := by decide +kernel
theorem dX7_blowOf_10 : decode cX7_blowOf 10 = .ok (.istore_n 3, 1) := by decide +kernel
theorem dX7_blowOf_11 : decode cX7_blowOf 11 = .ok (.iconst 0, 1) := by decide +kernel
theorem dX7_blowOf_12 : decode cX7_blowOf 12 = .ok (.istore 4, 2) := by decide +kernel
theorem dX7_blowOf_14 : decode cX7_blowOf 14 = .ok (.iload_n 3, 1) := by decide +kernel
theorem dX7_blowOf_15 : decode cX7_blowOf 15 = .ok (.bipush 10, 2) := by decide +kernel
theorem dX7_blowOf_17 : decode cX7_blowOf 17 = .ok (.idiv, 1) := by decide +kernel
theorem dX7_blowOf_18 : decode cX7_blowOf 18 = .ok (.iconst 3, 1) := by decide +kernel
theorem dX7_blowOf_19 : decode cX7_blowOf 19 = .ok (.irem, 1) := by decide +kernel
theorem dX7_blowOf_20 : decode cX7_blowOf 20 = .ok (.istore 5, 2) := by decide +kernel
theorem dX7_blowOf_22 : decode cX7_blowOf 22 = .ok (.iload 5, 2) := by decide +kernel
theorem dX7_blowOf_24 : decode cX7_blowOf 24 = .ok (.bipush 9, 2) := by decide +kernel
theorem dX7_blowOf_26 : decode cX7_blowOf 26 = .ok (.if_icmp .ge 87, 3) := by decide +kernel
theorem dX7_blowOf_29 : decode cX7_blowOf 29 = .ok (.iconst 0, 1) := by decide +kernel
theorem dX7_blowOf_30 : decode cX7_blowOf 30 = .ok (.istore 6, 2) := by decide +kernel
theorem dX7_blowOf_32 : decode cX7_blowOf 32 = .ok (.iconst 0, 1) := by decide +kernel
theorem dX7_blowOf_33 : decode cX7_blowOf 33 = .ok (.istore 7, 2) := by decide +kernel
theorem dX7_blowOf_35 : decode cX7_blowOf 35 = .ok (.iload 7, 2) := by decide +kernel
theorem dX7_blowOf_37 : decode cX7_blowOf 37 = .ok (.aload_n 0, 1) := by decide +kernel
theorem dX7_blowOf_38 : decode cX7_blowOf 38 = .ok (.getfield 41, 3) := by decide +kernel
theorem dX7_blowOf_41 : decode cX7_blowOf 41 = .ok (.iload_n 1, 1) := by decide +kernel
theorem dX7_blowOf_42 : decode cX7_blowOf 42 = .ok (.iaload, 1) := by decide +kernel
theorem dX7_blowOf_43 : decode cX7_blowOf 43 = .ok (.if_icmp .ge 40, 3) := by decide +kernel
theorem dX7_blowOf_46 : decode cX7_blowOf 46 = .ok (.iload 6, 2) := by decide +kernel
theorem dX7_blowOf_48 : decode cX7_blowOf 48 = .ok (.ifCond .ne 22, 3) := by decide +kernel
theorem dX7_blowOf_51 : decode cX7_blowOf 51 = .ok (.aload_n 0, 1) := by decide +kernel
theorem dX7_blowOf_52 : decode cX7_blowOf 52 = .ok (.getfield 44, 3) := by decide +kernel
theorem dX7_blowOf_55 : decode cX7_blowOf 55 = .ok (.iconst 5, 1) := by decide +kernel
theorem dX7_blowOf_56 : decode cX7_blowOf 56 = .ok (.iload_n 1, 1) := by decide +kernel
theorem dX7_blowOf_57 : decode cX7_blowOf 57 = .ok (.imul, 1) := by decide +kernel
theorem dX7_blowOf_58 : decode cX7_blowOf 58 = .ok (.iload 7, 2) := by decide +kernel
theorem dX7_blowOf_60 : decode cX7_blowOf 60 = .ok (.iadd, 1) := by decide +kernel
theorem dX7_blowOf_61 : decode cX7_blowOf 61 = .ok (.iaload, 1) := by decide +kernel
theorem dX7_blowOf_62 : decode cX7_blowOf 62 = .ok (.bipush 10, 2) := by decide +kernel
theorem dX7_blowOf_64 : decode cX7_blowOf 64 = .ok (.idiv, 1) := by decide +kernel
theorem dX7_blowOf_65 : decode cX7_blowOf 65 = .ok (.iload 5, 2) := by decide +kernel
theorem dX7_blowOf_67 : decode cX7_blowOf 67 = .ok (.if_icmp .ne 7, 3) := by decide +kernel
theorem dX7_blowOf_70 : decode cX7_blowOf 70 = .ok (.iconst 1, 1) := by decide +kernel
theorem dX7_blowOf_71 : decode cX7_blowOf 71 = .ok (.goto 4, 3) := by decide +kernel
theorem dX7_blowOf_74 : decode cX7_blowOf 74 = .ok (.iconst 0, 1) := by decide +kernel
theorem dX7_blowOf_75 : decode cX7_blowOf 75 = .ok (.istore 6, 2) := by decide +kernel
theorem dX7_blowOf_77 : decode cX7_blowOf 77 = .ok (.iinc 7 1, 3) := by decide +kernel
theorem dX7_blowOf_80 : decode cX7_blowOf 80 = .ok (.goto (-45), 3) := by decide +kernel
theorem dX7_blowOf_83 : decode cX7_blowOf 83 = .ok (.iload 4, 2) := by decide +kernel
theorem dX7_blowOf_85 : decode cX7_blowOf 85 = .ok (.iload 6, 2) := by decide +kernel
theorem dX7_blowOf_87 : decode cX7_blowOf 87 = .ok (.ifCond .eq 16, 3) := by decide +kernel
theorem dX7_blowOf_90 : decode cX7_blowOf 90 = .ok (.iload 5, 2) := by decide +kernel
theorem dX7_blowOf_92 : decode cX7_blowOf 92 = .ok (.iload_n 3, 1) := by decide +kernel
theorem dX7_blowOf_93 : decode cX7_blowOf 93 = .ok (.bipush 10, 2) := by decide +kernel
theorem dX7_blowOf_95 : decode cX7_blowOf 95 = .ok (.idiv, 1) := by decide +kernel
theorem dX7_blowOf_96 : decode cX7_blowOf 96 = .ok (.if_icmp .eq 7, 3) := by decide +kernel
theorem dX7_blowOf_99 : decode cX7_blowOf 99 = .ok (.iconst 1, 1) := by decide +kernel
theorem dX7_blowOf_100 : decode cX7_blowOf 100 = .ok (.goto 4, 3) := by decide +kernel
theorem dX7_blowOf_103 : decode cX7_blowOf 103 = .ok (.iconst 0, 1) := by decide +kernel
theorem dX7_blowOf_104 : decode cX7_blowOf 104 = .ok (.iadd, 1) := by decide +kernel
theorem dX7_blowOf_105 : decode cX7_blowOf 105 = .ok (.istore 4, 2) := by decide +kernel
theorem dX7_blowOf_107 : decode cX7_blowOf 107 = .ok (.iinc 5 3, 3) := by decide +kernel
theorem dX7_blowOf_110 : decode cX7_blowOf 110 = .ok (.goto (-88), 3) := by decide +kernel
theorem dX7_blowOf_113 : decode cX7_blowOf 113 = .ok (.iconst 2, 1) := by decide +kernel
theorem dX7_blowOf_114 : decode cX7_blowOf 114 = .ok (.iload_n 3, 1) := by decide +kernel
theorem dX7_blowOf_115 : decode cX7_blowOf 115 = .ok (.bipush 10, 2) := by decide +kernel
theorem dX7_blowOf_117 : decode cX7_blowOf 117 = .ok (.idiv, 1) := by decide +kernel
theorem dX7_blowOf_118 : decode cX7_blowOf 118 = .ok (.invokestatic 81, 3) := by decide +kernel
theorem dX7_blowOf_121 : decode cX7_blowOf 121 = .ok (.imul, 1) := by decide +kernel
theorem dX7_blowOf_122 : decode cX7_blowOf 122 = .ok (.iload_n 3, 1) := by decide +kernel
theorem dX7_blowOf_123 : decode cX7_blowOf 123 = .ok (.bipush 10, 2) := by decide +kernel
theorem dX7_blowOf_125 : decode cX7_blowOf 125 = .ok (.irem, 1) := by decide +kernel
theorem dX7_blowOf_126 : decode cX7_blowOf 126 = .ok (.imul, 1) := by decide +kernel
theorem dX7_blowOf_127 : decode cX7_blowOf 127 = .ok (.iload 4, 2) := by decide +kernel
theorem dX7_blowOf_129 : decode cX7_blowOf 129 = .ok (.iadd, 1) := by decide +kernel
theorem dX7_blowOf_130 : decode cX7_blowOf 130 = .ok (.ireturn, 1) := by decide +kernel
theorem dX7_stands_0 : decode cX7_stands 0 = .ok (.aload_n 0, 1) := by decide +kernel
theorem dX7_stands_1 : decode cX7_stands 1 = .ok (.getfield 47, 3) := by decide +kernel
theorem dX7_stands_4 : decode cX7_stands 4 = .ok (.iload_n 1, 1) := by decide +kernel
theorem dX7_stands_5 : decode cX7_stands 5 = .ok (.aload_n 0, 1) := by decide +kernel
theorem dX7_stands_6 : decode cX7_stands 6 = .ok (.getfield 41, 3) := by decide +kernel
theorem dX7_stands_9 : decode cX7_stands 9 = .ok (.iload_n 2, 1) := by decide +kernel
theorem dX7_stands_10 : decode cX7_stands 10 = .ok (.iaload, 1) := by decide +kernel
theorem dX7_stands_11 : decode cX7_stands 11 = .ok (.iastore, 1) := by decide +kernel
theorem dX7_stands_12 : decode cX7_stands 12 = .ok (.aload_n 0, 1) := by decide +kernel
theorem dX7_stands_13 : decode cX7_stands 13 = .ok (.getfield 50, 3) := by decide +kernel
theorem dX7_stands_16 : decode cX7_stands 16 = .ok (.iload_n 1, 1) := by decide +kernel
theorem dX7_stands_17 : decode cX7_stands 17 = .ok (.iconst 0, 1) := by decide +kernel
theorem dX7_stands_18 : decode cX7_stands 18 = .ok (.iastore, 1) := by decide +kernel
theorem dX7_stands_19 : decode cX7_stands 19 = .ok (.iconst 0, 1) := by decide +kernel
theorem dX7_stands_20 : decode cX7_stands 20 = .ok (.istore_n 3, 1) := by decide +kernel
theorem dX7_stands_21 : decode cX7_stands 21 = .ok (.iload_n 3, 1) := by decide +kernel
theorem dX7_stands_22 : decode cX7_stands 22 = .ok (.aload_n 0, 1) := by decide +kernel
theorem dX7_stands_23 : decode cX7_stands 23 = .ok (.getfield 41, 3) := by decide +kernel
theorem dX7_stands_26 : decode cX7_stands 26 = .ok (.iload_n 2, 1) := by decide +kernel
theorem dX7_stands_27 : decode cX7_stands 27 = .ok (.iaload, 1) := by decide +kernel
theorem dX7_stands_28 : decode cX7_stands 28 = .ok (.if_icmp .ge 48, 3) := by decide +kernel
theorem dX7_stands_31 : decode cX7_stands 31 = .ok (.aload_n 0, 1) := by decide +kernel
theorem dX7_stands_32 : decode cX7_stands 32 = .ok (.getfield 44, 3) := by decide +kernel
theorem dX7_stands_35 : decode cX7_stands 35 = .ok (.iconst 5, 1) := by decide +kernel
theorem dX7_stands_36 : decode cX7_stands 36 = .ok (.iload_n 2, 1) := by decide +kernel
theorem dX7_stands_37 : decode cX7_stands 37 = .ok (.imul, 1) := by decide +kernel
theorem dX7_stands_38 : decode cX7_stands 38 = .ok (.iload_n 3, 1) := by decide +kernel
theorem dX7_stands_39 : decode cX7_stands 39 = .ok (.iadd, 1) := by decide +kernel
theorem dX7_stands_40 : decode cX7_stands 40 = .ok (.iaload, 1) := by decide +kernel
theorem dX7_stands_41 : decode cX7_stands 41 = .ok (.istore 4, 2) := by decide +kernel
theorem dX7_stands_43 : decode cX7_stands 43 = .ok (.aload_n 0, 1) := by decide +kernel
theorem dX7_stands_44 : decode cX7_stands 44 = .ok (.getfield 53, 3) := by decide +kernel
theorem dX7_stands_47 : decode cX7_stands 47 = .ok (.iconst 5, 1) := by decide +kernel
theorem dX7_stands_48 : decode cX7_stands 48 = .ok (.iload_n 1, 1) := by decide +kernel
theorem dX7_stands_49 : decode cX7_stands 49 = .ok (.imul, 1) := by decide +kernel
theorem dX7_stands_50 : decode cX7_stands 50 = .ok (.iload_n 3, 1) := by decide +kernel
theorem dX7_stands_51 : decode cX7_stands 51 = .ok (.iadd, 1) := by decide +kernel
theorem dX7_stands_52 : decode cX7_stands 52 = .ok (.bipush 6, 2) := by decide +kernel
theorem dX7_stands_54 : decode cX7_stands 54 = .ok (.iload 4, 2) := by decide +kernel
theorem dX7_stands_56 : decode cX7_stands 56 = .ok (.bipush 10, 2) := by decide +kernel
theorem dX7_stands_58 : decode cX7_stands 58 = .ok (.idiv, 1) := by decide +kernel
theorem dX7_stands_59 : decode cX7_stands 59 = .ok (.invokestatic 81, 3) := by decide +kernel
theorem dX7_stands_62 : decode cX7_stands 62 = .ok (.imul, 1) := by decide +kernel
theorem dX7_stands_63 : decode cX7_stands 63 = .ok (.iload 4, 2) := by decide +kernel
theorem dX7_stands_65 : decode cX7_stands 65 = .ok (.bipush 10, 2) := by decide +kernel
theorem dX7_stands_67 : decode cX7_stands 67 = .ok (.irem, 1) := by decide +kernel
theorem dX7_stands_68 : decode cX7_stands 68 = .ok (.imul, 1) := by decide +kernel
theorem dX7_stands_69 : decode cX7_stands 69 = .ok (.iastore, 1) := by decide +kernel
theorem dX7_stands_70 : decode cX7_stands 70 = .ok (.iinc 3 1, 3) := by decide +kernel
theorem dX7_stands_73 : decode cX7_stands 73 = .ok (.goto (-52), 3) := by decide +kernel
theorem dX7_stands_76 : decode cX7_stands 76 = .ok (.return_, 1) := by decide +kernel
theorem dX7_living_0 : decode cX7_living 0 = .ok (.iconst 0, 1) := by decide +kernel
theorem dX7_living_1 : decode cX7_living 1 = .ok (.istore_n 2, 1) := by decide +kernel
theorem dX7_living_2 : decode cX7_living 2 = .ok (.iconst 0, 1) := by decide +kernel
theorem dX7_living_3 : decode cX7_living 3 = .ok (.istore_n 3, 1) := by decide +kernel
theorem dX7_living_4 : decode cX7_living 4 = .ok (.iload_n 3, 1) := by decide +kernel
theorem dX7_living_5 : decode cX7_living 5 = .ok (.aload_n 0, 1) := by decide +kernel
theorem dX7_living_6 : decode cX7_living 6 = .ok (.getfield 47, 3) := by decide +kernel
theorem dX7_living_9 : decode cX7_living 9 = .ok (.iload_n 1, 1) := by decide +kernel
theorem dX7_living_10 : decode cX7_living 10 = .ok (.iaload, 1) := by decide +kernel
theorem dX7_living_11 : decode cX7_living 11 = .ok (.if_icmp .ge 30, 3) := by decide +kernel
theorem dX7_living_14 : decode cX7_living 14 = .ok (.iload_n 2, 1) := by decide +kernel
theorem dX7_living_15 : decode cX7_living 15 = .ok (.aload_n 0, 1) := by decide +kernel
theorem dX7_living_16 : decode cX7_living 16 = .ok (.getfield 53, 3) := by decide +kernel
theorem dX7_living_19 : decode cX7_living 19 = .ok (.iconst 5, 1) := by decide +kernel
theorem dX7_living_20 : decode cX7_living 20 = .ok (.iload_n 1, 1) := by decide +kernel
theorem dX7_living_21 : decode cX7_living 21 = .ok (.imul, 1) := by decide +kernel
theorem dX7_living_22 : decode cX7_living 22 = .ok (.iload_n 3, 1) := by decide +kernel
theorem dX7_living_23 : decode cX7_living 23 = .ok (.iadd, 1) := by decide +kernel
theorem dX7_living_24 : decode cX7_living 24 = .ok (.iaload, 1) := by decide +kernel
theorem dX7_living_25 : decode cX7_living 25 = .ok (.ifCond .le 7, 3) := by decide +kernel
theorem dX7_living_28 : decode cX7_living 28 = .ok (.iconst 1, 1) := by decide +kernel
theorem dX7_living_29 : decode cX7_living 29 = .ok (.goto 4, 3) := by decide +kernel
theorem dX7_living_32 : decode cX7_living 32 = .ok (.iconst 0, 1) := by decide +kernel
theorem dX7_living_33 : decode cX7_living 33 = .ok (.iadd, 1) := by decide +kernel
theorem dX7_living_34 : decode cX7_living 34 = .ok (.istore_n 2, 1) := by decide +kernel
theorem dX7_living_35 : decode cX7_living 35 = .ok (.iinc 3 1, 3) := by decide +kernel
theorem dX7_living_38 : decode cX7_living 38 = .ok (.goto (-34), 3) := by decide +kernel
theorem dX7_living_41 : decode cX7_living 41 = .ok (.iload_n 2, 1) := by decide +kernel
theorem dX7_living_42 : decode cX7_living 42 = .ok (.ireturn, 1) := by decide +kernel
theorem dX7_blows_0 : decode cX7_blows 0 = .ok (.aload_n 0, 1) := by decide +kernel
theorem dX7_blows_1 : decode cX7_blows 1 = .ok (.getfield 53, 3) := by decide +kernel
theorem dX7_blows_4 : decode cX7_blows 4 = .ok (.iconst 5, 1) := by decide +kernel
theorem dX7_blows_5 : decode cX7_blows 5 = .ok (.iload_n 1, 1) := by decide +kernel
theorem dX7_blows_6 : decode cX7_blows 6 = .ok (.imul, 1) := by decide +kernel
theorem dX7_blows_7 : decode cX7_blows 7 = .ok (.aload_n 0, 1) := by decide +kernel
theorem dX7_blows_8 : decode cX7_blows 8 = .ok (.getfield 50, 3) := by decide +kernel
theorem dX7_blows_11 : decode cX7_blows 11 = .ok (.iload_n 1, 1) := by decide +kernel
theorem dX7_blows_12 : decode cX7_blows 12 = .ok (.iaload, 1) := by decide +kernel
theorem dX7_blows_13 : decode cX7_blows 13 = .ok (.iadd, 1) := by decide +kernel
theorem dX7_blows_14 : decode cX7_blows 14 = .ok (.iaload, 1) := by decide +kernel
theorem dX7_blows_15 : decode cX7_blows 15 = .ok (.ifCond .gt 27, 3) := by decide +kernel
theorem dX7_blows_18 : decode cX7_blows 18 = .ok (.aload_n 0, 1) := by decide +kernel
theorem dX7_blows_19 : decode cX7_blows 19 = .ok (.getfield 50, 3) := by decide +kernel
theorem dX7_blows_22 : decode cX7_blows 22 = .ok (.iload_n 1, 1) := by decide +kernel
theorem dX7_blows_23 : decode cX7_blows 23 = .ok (.aload_n 0, 1) := by decide +kernel
theorem dX7_blows_24 : decode cX7_blows 24 = .ok (.getfield 50, 3) := by decide +kernel
theorem dX7_blows_27 : decode cX7_blows 27 = .ok (.iload_n 1, 1) := by decide +kernel
theorem dX7_blows_28 : decode cX7_blows 28 = .ok (.iaload, 1) := by decide +kernel
theorem dX7_blows_29 : decode cX7_blows 29 = .ok (.iconst 1, 1) := by decide +kernel
theorem dX7_blows_30 : decode cX7_blows 30 = .ok (.iadd, 1) := by decide +kernel
theorem dX7_blows_31 : decode cX7_blows 31 = .ok (.aload_n 0, 1) := by decide +kernel
theorem dX7_blows_32 : decode cX7_blows 32 = .ok (.getfield 47, 3) := by decide +kernel
theorem dX7_blows_35 : decode cX7_blows 35 = .ok (.iload_n 1, 1) := by decide +kernel
theorem dX7_blows_36 : decode cX7_blows 36 = .ok (.iaload, 1) := by decide +kernel
theorem dX7_blows_37 : decode cX7_blows 37 = .ok (.irem, 1) := by decide +kernel
theorem dX7_blows_38 : decode cX7_blows 38 = .ok (.iastore, 1) := by decide +kernel
theorem dX7_blows_39 : decode cX7_blows 39 = .ok (.goto (-39), 3) := by decide +kernel
theorem dX7_blows_42 : decode cX7_blows 42 = .ok (.iconst 0, 1) := by decide +kernel
theorem dX7_blows_43 : decode cX7_blows 43 = .ok (.istore_n 3, 1) := by decide +kernel
theorem dX7_blows_44 : decode cX7_blows 44 = .ok (.aload_n 0, 1) := by decide +kernel
theorem dX7_blows_45 : decode cX7_blows 45 = .ok (.getfield 53, 3) := by decide +kernel
theorem dX7_blows_48 : decode cX7_blows 48 = .ok (.iconst 5, 1) := by decide +kernel
theorem dX7_blows_49 : decode cX7_blows 49 = .ok (.iconst 1, 1) := by decide +kernel
theorem dX7_blows_50 : decode cX7_blows 50 = .ok (.iload_n 1, 1) := by decide +kernel
theorem dX7_blows_51 : decode cX7_blows 51 = .ok (.isub, 1) := by decide +kernel
theorem dX7_blows_52 : decode cX7_blows 52 = .ok (.imul, 1) := by decide +kernel
theorem dX7_blows_53 : decode cX7_blows 53 = .ok (.iload_n 3, 1) := by decide +kernel
theorem dX7_blows_54 : decode cX7_blows 54 = .ok (.iadd, 1) := by decide +kernel
theorem dX7_blows_55 : decode cX7_blows 55 = .ok (.iaload, 1) := by decide +kernel
theorem dX7_blows_56 : decode cX7_blows 56 = .ok (.ifCond .gt 9, 3) := by decide +kernel
theorem dX7_blows_59 : decode cX7_blows 59 = .ok (.iinc 3 1, 3) := by decide +kernel
theorem dX7_blows_62 : decode cX7_blows 62 = .ok (.goto (-18), 3) := by decide +kernel
theorem dX7_blows_65 : decode cX7_blows 65 = .ok (.aload_n 0, 1) := by decide +kernel
theorem dX7_blows_66 : decode cX7_blows 66 = .ok (.getfield 53, 3) := by decide +kernel
theorem dX7_blows_69 : decode cX7_blows 69 = .ok (.iconst 5, 1) := by decide +kernel
theorem dX7_blows_70 : decode cX7_blows 70 = .ok (.iconst 1, 1) := by decide +kernel
theorem dX7_blows_71 : decode cX7_blows 71 = .ok (.iload_n 1, 1) := by decide +kernel
theorem dX7_blows_72 : decode cX7_blows 72 = .ok (.isub, 1) := by decide +kernel
theorem dX7_blows_73 : decode cX7_blows 73 = .ok (.imul, 1) := by decide +kernel
theorem dX7_blows_74 : decode cX7_blows 74 = .ok (.iload_n 3, 1) := by decide +kernel
theorem dX7_blows_75 : decode cX7_blows 75 = .ok (.iadd, 1) := by decide +kernel
theorem dX7_blows_76 : decode cX7_blows 76 = .ok (.dup2, 1) := by decide +kernel
theorem dX7_blows_77 : decode cX7_blows 77 = .ok (.iaload, 1) := by decide +kernel
theorem dX7_blows_78 : decode cX7_blows 78 = .ok (.aload_n 0, 1) := by decide +kernel
theorem dX7_blows_79 : decode cX7_blows 79 = .ok (.iload_n 2, 1) := by decide +kernel
theorem dX7_blows_80 : decode cX7_blows 80 = .ok (.aload_n 0, 1) := by decide +kernel
theorem dX7_blows_81 : decode cX7_blows 81 = .ok (.getfield 50, 3) := by decide +kernel
theorem dX7_blows_84 : decode cX7_blows 84 = .ok (.iload_n 1, 1) := by decide +kernel
theorem dX7_blows_85 : decode cX7_blows 85 = .ok (.iaload, 1) := by decide +kernel
theorem dX7_blows_86 : decode cX7_blows 86 = .ok (.invokevirtual 135, 3) := by decide +kernel
theorem dX7_blows_89 : decode cX7_blows 89 = .ok (.isub, 1) := by decide +kernel
theorem dX7_blows_90 : decode cX7_blows 90 = .ok (.iastore, 1) := by decide +kernel
theorem dX7_blows_91 : decode cX7_blows 91 = .ok (.aload_n 0, 1) := by decide +kernel
theorem dX7_blows_92 : decode cX7_blows 92 = .ok (.getfield 50, 3) := by decide +kernel
theorem dX7_blows_95 : decode cX7_blows 95 = .ok (.iload_n 1, 1) := by decide +kernel
theorem dX7_blows_96 : decode cX7_blows 96 = .ok (.aload_n 0, 1) := by decide +kernel
theorem dX7_blows_97 : decode cX7_blows 97 = .ok (.getfield 50, 3) := by decide +kernel
theorem dX7_blows_100 : decode cX7_blows 100 = .ok (.iload_n 1, 1) := by decide +kernel
theorem dX7_blows_101 : decode cX7_blows 101 = .ok (.iaload, 1) := by decide +kernel
theorem dX7_blows_102 : decode cX7_blows 102 = .ok (.iconst 1, 1) := by decide +kernel
theorem dX7_blows_103 : decode cX7_blows 103 = .ok (.iadd, 1) := by decide +kernel
theorem dX7_blows_104 : decode cX7_blows 104 = .ok (.aload_n 0, 1) := by decide +kernel
theorem dX7_blows_105 : decode cX7_blows 105 = .ok (.getfield 47, 3) := by decide +kernel
theorem dX7_blows_108 : decode cX7_blows 108 = .ok (.iload_n 1, 1) := by decide +kernel
theorem dX7_blows_109 : decode cX7_blows 109 = .ok (.iaload, 1) := by decide +kernel
theorem dX7_blows_110 : decode cX7_blows 110 = .ok (.irem, 1) := by decide +kernel
theorem dX7_blows_111 : decode cX7_blows 111 = .ok (.iastore, 1) := by decide +kernel
theorem dX7_blows_112 : decode cX7_blows 112 = .ok (.return_, 1) := by decide +kernel
theorem dX7_fought_0 : decode cX7_fought 0 = .ok (.aload_n 0, 1) := by decide +kernel
theorem dX7_fought_1 : decode cX7_fought 1 = .ok (.iconst 0, 1) := by decide +kernel
theorem dX7_fought_2 : decode cX7_fought 2 = .ok (.iload_n 1, 1) := by decide +kernel
theorem dX7_fought_3 : decode cX7_fought 3 = .ok (.invokevirtual 138, 3) := by decide +kernel
theorem dX7_fought_6 : decode cX7_fought 6 = .ok (.aload_n 0, 1) := by decide +kernel
theorem dX7_fought_7 : decode cX7_fought 7 = .ok (.iconst 1, 1) := by decide +kernel
theorem dX7_fought_8 : decode cX7_fought 8 = .ok (.iload_n 2, 1) := by decide +kernel
theorem dX7_fought_9 : decode cX7_fought 9 = .ok (.invokevirtual 138, 3) := by decide +kernel
theorem dX7_fought_12 : decode cX7_fought 12 = .ok (.iconst 0, 1) := by decide +kernel
theorem dX7_fought_13 : decode cX7_fought 13 = .ok (.istore_n 3, 1) := by decide +kernel
theorem dX7_fought_14 : decode cX7_fought 14 = .ok (.iload_n 3, 1) := by decide +kernel
theorem dX7_fought_15 : decode cX7_fought 15 = .ok (.bipush 60, 2) := by decide +kernel
theorem dX7_fought_17 : decode cX7_fought 17 = .ok (.if_icmp .ge 43, 3) := by decide +kernel
theorem dX7_fought_20 : decode cX7_fought 20 = .ok (.aload_n 0, 1) := by decide +kernel
theorem dX7_fought_21 : decode cX7_fought 21 = .ok (.iconst 0, 1) := by decide +kernel
theorem dX7_fought_22 : decode cX7_fought 22 = .ok (.invokevirtual 141, 3) := by decide +kernel
theorem dX7_fought_25 : decode cX7_fought 25 = .ok (.ifCond .le 35, 3) := by decide +kernel
theorem dX7_fought_28 : decode cX7_fought 28 = .ok (.aload_n 0, 1) := by decide +kernel
theorem dX7_fought_29 : decode cX7_fought 29 = .ok (.iconst 1, 1) := by decide +kernel
theorem dX7_fought_30 : decode cX7_fought 30 = .ok (.invokevirtual 141, 3) := by decide +kernel
theorem dX7_fought_33 : decode cX7_fought 33 = .ok (.ifCond .le 27, 3) := by decide +kernel
theorem dX7_fought_36 : decode cX7_fought 36 = .ok (.aload_n 0, 1) := by decide +kernel
theorem dX7_fought_37 : decode cX7_fought 37 = .ok (.iload_n 3, 1) := by decide +kernel
theorem dX7_fought_38 : decode cX7_fought 38 = .ok (.iconst 2, 1) := by decide +kernel
theorem dX7_fought_39 : decode cX7_fought 39 = .ok (.irem, 1) := by decide +kernel
theorem dX7_fought_40 : decode cX7_fought 40 = .ok (.iload_n 3, 1) := by decide +kernel
theorem dX7_fought_41 : decode cX7_fought 41 = .ok (.iconst 2, 1) := by decide +kernel
theorem dX7_fought_42 : decode cX7_fought 42 = .ok (.irem, 1) := by decide +kernel
theorem dX7_fought_43 : decode cX7_fought 43 = .ok (.ifCond .ne 7, 3) := by decide +kernel
theorem dX7_fought_46 : decode cX7_fought 46 = .ok (.iload_n 1, 1) := by decide +kernel
theorem dX7_fought_47 : decode cX7_fought 47 = .ok (.goto 4, 3) := by decide +kernel
theorem dX7_fought_50 : decode cX7_fought 50 = .ok (.iload_n 2, 1) := by decide +kernel
theorem dX7_fought_51 : decode cX7_fought 51 = .ok (.invokevirtual 144, 3) := by decide +kernel
theorem dX7_fought_54 : decode cX7_fought 54 = .ok (.iinc 3 1, 3) := by decide +kernel
theorem dX7_fought_57 : decode cX7_fought 57 = .ok (.goto (-43), 3) := by decide +kernel
theorem dX7_fought_60 : decode cX7_fought 60 = .ok (.aload_n 0, 1) := by decide +kernel
theorem dX7_fought_61 : decode cX7_fought 61 = .ok (.iconst 0, 1) := by decide +kernel
theorem dX7_fought_62 : decode cX7_fought 62 = .ok (.invokevirtual 141, 3) := by decide +kernel
theorem dX7_fought_65 : decode cX7_fought 65 = .ok (.aload_n 0, 1) := by decide +kernel
theorem dX7_fought_66 : decode cX7_fought 66 = .ok (.iconst 1, 1) := by decide +kernel
theorem dX7_fought_67 : decode cX7_fought 67 = .ok (.invokevirtual 141, 3) := by decide +kernel
theorem dX7_fought_70 : decode cX7_fought 70 = .ok (.isub, 1) := by decide +kernel
theorem dX7_fought_71 : decode cX7_fought 71 = .ok (.ireturn, 1) := by decide +kernel
theorem dX7_wins_0 : decode cX7_wins 0 = .ok (.aload_n 0, 1) := by decide +kernel
theorem dX7_wins_1 : decode cX7_wins 1 = .ok (.getfield 22, 3) := by decide +kernel
theorem dX7_wins_4 : decode cX7_wins 4 = .ok (.iload_n 2, 1) := by decide +kernel
theorem dX7_wins_5 : decode cX7_wins 5 = .ok (.dup2, 1) := by decide +kernel
theorem dX7_wins_6 : decode cX7_wins 6 = .ok (.iaload, 1) := by decide +kernel
theorem dX7_wins_7 : decode cX7_wins 7 = .ok (.iload_n 3, 1) := by decide +kernel
theorem dX7_wins_8 : decode cX7_wins 8 = .ok (.iconst 1, 1) := by decide +kernel
theorem dX7_wins_9 : decode cX7_wins 9 = .ok (.iadd, 1) := by decide +kernel
theorem dX7_wins_10 : decode cX7_wins 10 = .ok (.aload_n 0, 1) := by decide +kernel
theorem dX7_wins_11 : decode cX7_wins 11 = .ok (.getfield 22, 3) := by decide +kernel
theorem dX7_wins_14 : decode cX7_wins 14 = .ok (.iload_n 2, 1) := by decide +kernel
theorem dX7_wins_15 : decode cX7_wins 15 = .ok (.iaload, 1) := by decide +kernel
theorem dX7_wins_16 : decode cX7_wins 16 = .ok (.invokestatic 129, 3) := by decide +kernel
theorem dX7_wins_19 : decode cX7_wins 19 = .ok (.isub, 1) := by decide +kernel
theorem dX7_wins_20 : decode cX7_wins 20 = .ok (.iastore, 1) := by decide +kernel
theorem dX7_wins_21 : decode cX7_wins 21 = .ok (.aload_n 0, 1) := by decide +kernel
theorem dX7_wins_22 : decode cX7_wins 22 = .ok (.getfield 25, 3) := by decide +kernel
theorem dX7_wins_25 : decode cX7_wins 25 = .ok (.iload_n 1, 1) := by decide +kernel
theorem dX7_wins_26 : decode cX7_wins 26 = .ok (.aload_n 0, 1) := by decide +kernel
theorem dX7_wins_27 : decode cX7_wins 27 = .ok (.getfield 25, 3) := by decide +kernel
theorem dX7_wins_30 : decode cX7_wins 30 = .ok (.iload_n 1, 1) := by decide +kernel
theorem dX7_wins_31 : decode cX7_wins 31 = .ok (.iaload, 1) := by decide +kernel
theorem dX7_wins_32 : decode cX7_wins 32 = .ok (.ifCond .le 14, 3) := by decide +kernel
theorem dX7_wins_35 : decode cX7_wins 35 = .ok (.aload_n 0, 1) := by decide +kernel
theorem dX7_wins_36 : decode cX7_wins 36 = .ok (.getfield 25, 3) := by decide +kernel
theorem dX7_wins_39 : decode cX7_wins 39 = .ok (.iload_n 1, 1) := by decide +kernel
theorem dX7_wins_40 : decode cX7_wins 40 = .ok (.iaload, 1) := by decide +kernel
theorem dX7_wins_41 : decode cX7_wins 41 = .ok (.iconst 1, 1) := by decide +kernel
theorem dX7_wins_42 : decode cX7_wins 42 = .ok (.iadd, 1) := by decide +kernel
theorem dX7_wins_43 : decode cX7_wins 43 = .ok (.goto 4, 3) := by decide +kernel
theorem dX7_wins_46 : decode cX7_wins 46 = .ok (.iconst 1, 1) := by decide +kernel
theorem dX7_wins_47 : decode cX7_wins 47 = .ok (.iastore, 1) := by decide +kernel
theorem dX7_wins_48 : decode cX7_wins 48 = .ok (.aload_n 0, 1) := by decide +kernel
theorem dX7_wins_49 : decode cX7_wins 49 = .ok (.getfield 25, 3) := by decide +kernel
theorem dX7_wins_52 : decode cX7_wins 52 = .ok (.iload_n 2, 1) := by decide +kernel
theorem dX7_wins_53 : decode cX7_wins 53 = .ok (.aload_n 0, 1) := by decide +kernel
theorem dX7_wins_54 : decode cX7_wins 54 = .ok (.getfield 25, 3) := by decide +kernel
theorem dX7_wins_57 : decode cX7_wins 57 = .ok (.iload_n 2, 1) := by decide +kernel
theorem dX7_wins_58 : decode cX7_wins 58 = .ok (.iaload, 1) := by decide +kernel
theorem dX7_wins_59 : decode cX7_wins 59 = .ok (.ifCond .ge 14, 3) := by decide +kernel
theorem dX7_wins_62 : decode cX7_wins 62 = .ok (.aload_n 0, 1) := by decide +kernel
theorem dX7_wins_63 : decode cX7_wins 63 = .ok (.getfield 25, 3) := by decide +kernel
theorem dX7_wins_66 : decode cX7_wins 66 = .ok (.iload_n 2, 1) := by decide +kernel
theorem dX7_wins_67 : decode cX7_wins 67 = .ok (.iaload, 1) := by decide +kernel
theorem dX7_wins_68 : decode cX7_wins 68 = .ok (.iconst 1, 1) := by decide +kernel
theorem dX7_wins_69 : decode cX7_wins 69 = .ok (.isub, 1) := by decide +kernel
theorem dX7_wins_70 : decode cX7_wins 70 = .ok (.goto 4, 3) := by decide +kernel
theorem dX7_wins_73 : decode cX7_wins 73 = .ok (.iconst (-1), 1) := by decide +kernel
theorem dX7_wins_74 : decode cX7_wins 74 = .ok (.iastore, 1) := by decide +kernel
theorem dX7_wins_75 : decode cX7_wins 75 = .ok (.return_, 1) := by decide +kernel
theorem dX7_pairs_0 : decode cX7_pairs 0 = .ok (.aload_n 0, 1) := by decide +kernel
theorem dX7_pairs_1 : decode cX7_pairs 1 = .ok (.iload_n 1, 1) := by decide +kernel
theorem dX7_pairs_2 : decode cX7_pairs 2 = .ok (.iload_n 2, 1) := by decide +kernel
theorem dX7_pairs_3 : decode cX7_pairs 3 = .ok (.invokevirtual 147, 3) := by decide +kernel
theorem dX7_pairs_6 : decode cX7_pairs 6 = .ok (.istore_n 3, 1) := by decide +kernel
theorem dX7_pairs_7 : decode cX7_pairs 7 = .ok (.iload_n 3, 1) := by decide +kernel
theorem dX7_pairs_8 : decode cX7_pairs 8 = .ok (.ifCond .le 13, 3) := by decide +kernel
theorem dX7_pairs_11 : decode cX7_pairs 11 = .ok (.aload_n 0, 1) := by decide +kernel
theorem dX7_pairs_12 : decode cX7_pairs 12 = .ok (.iload_n 1, 1) := by decide +kernel
theorem dX7_pairs_13 : decode cX7_pairs 13 = .ok (.iload_n 2, 1) := by decide +kernel
theorem dX7_pairs_14 : decode cX7_pairs 14 = .ok (.iload_n 3, 1) := by decide +kernel
theorem dX7_pairs_15 : decode cX7_pairs 15 = .ok (.invokevirtual 150, 3) := by decide +kernel
theorem dX7_pairs_18 : decode cX7_pairs 18 = .ok (.goto 32, 3) := by decide +kernel
theorem dX7_pairs_21 : decode cX7_pairs 21 = .ok (.iload_n 3, 1) := by decide +kernel
theorem dX7_pairs_22 : decode cX7_pairs 22 = .ok (.ifCond .ge 14, 3) := by decide +kernel
theorem dX7_pairs_25 : decode cX7_pairs 25 = .ok (.aload_n 0, 1) := by decide +kernel
theorem dX7_pairs_26 : decode cX7_pairs 26 = .ok (.iload_n 2, 1) := by decide +kernel
theorem dX7_pairs_27 : decode cX7_pairs 27 = .ok (.iload_n 1, 1) := by decide +kernel
theorem dX7_pairs_28 : decode cX7_pairs 28 = .ok (.iload_n 3, 1) := by decide +kernel
theorem dX7_pairs_29 : decode cX7_pairs 29 = .ok (.ineg, 1) := by decide +kernel
theorem dX7_pairs_30 : decode cX7_pairs 30 = .ok (.invokevirtual 150, 3) := by decide +kernel
theorem dX7_pairs_33 : decode cX7_pairs 33 = .ok (.goto 17, 3) := by decide +kernel
theorem dX7_pairs_36 : decode cX7_pairs 36 = .ok (.aload_n 0, 1) := by decide +kernel
theorem dX7_pairs_37 : decode cX7_pairs 37 = .ok (.getfield 25, 3) := by decide +kernel
theorem dX7_pairs_40 : decode cX7_pairs 40 = .ok (.iload_n 1, 1) := by decide +kernel
theorem dX7_pairs_41 : decode cX7_pairs 41 = .ok (.iconst 0, 1) := by decide +kernel
theorem dX7_pairs_42 : decode cX7_pairs 42 = .ok (.iastore, 1) := by decide +kernel
theorem dX7_pairs_43 : decode cX7_pairs 43 = .ok (.aload_n 0, 1) := by decide +kernel
theorem dX7_pairs_44 : decode cX7_pairs 44 = .ok (.getfield 25, 3) := by decide +kernel
theorem dX7_pairs_47 : decode cX7_pairs 47 = .ok (.iload_n 2, 1) := by decide +kernel
theorem dX7_pairs_48 : decode cX7_pairs 48 = .ok (.iconst 0, 1) := by decide +kernel
theorem dX7_pairs_49 : decode cX7_pairs 49 = .ok (.iastore, 1) := by decide +kernel
theorem dX7_pairs_50 : decode cX7_pairs 50 = .ok (.return_, 1) := by decide +kernel
theorem dX7_third_0 : decode cX7_third 0 = .ok (.iload_n 0, 1) := by decide +kernel
theorem dX7_third_1 : decode cX7_third 1 = .ok (.ifCond .ne 7, 3) := by decide +kernel
theorem dX7_third_4 : decode cX7_third 4 = .ok (.iconst 2, 1) := by decide +kernel
theorem dX7_third_5 : decode cX7_third 5 = .ok (.goto 4, 3) := by decide +kernel
theorem dX7_third_8 : decode cX7_third 8 = .ok (.iconst 1, 1) := by decide +kernel
theorem dX7_third_9 : decode cX7_third 9 = .ok (.ireturn, 1) := by decide +kernel
theorem dX7_round_0 : decode cX7_round 0 = .ok (.aload_n 0, 1) := by decide +kernel
theorem dX7_round_1 : decode cX7_round 1 = .ok (.aload_n 0, 1) := by decide +kernel
theorem dX7_round_2 : decode cX7_round 2 = .ok (.getfield 154, 3) := by decide +kernel
theorem dX7_round_5 : decode cX7_round 5 = .ok (.sipush 200, 3) := by decide +kernel
theorem dX7_round_8 : decode cX7_round 8 = .ok (.if_icmp .ne 7, 3) := by decide +kernel
theorem dX7_round_11 : decode cX7_round 11 = .ok (.iconst 1, 1) := by decide +kernel
theorem dX7_round_12 : decode cX7_round 12 = .ok (.goto 4, 3) := by decide +kernel
theorem dX7_round_15 : decode cX7_round 15 = .ok (.iconst 0, 1) := by decide +kernel
theorem dX7_round_16 : decode cX7_round 16 = .ok (.invokevirtual 71, 3) := by decide +kernel
theorem dX7_round_19 : decode cX7_round 19 = .ok (.ifCond .ne 5, 3) := by decide +kernel
theorem dX7_round_22 : decode cX7_round 22 = .ok (.iconst 0, 1) := by decide +kernel
theorem dX7_round_23 : decode cX7_round 23 = .ok (.ireturn, 1) := by decide +kernel
theorem dX7_round_24 : decode cX7_round 24 = .ok (.aload_n 0, 1) := by decide +kernel
theorem dX7_round_25 : decode cX7_round 25 = .ok (.getfield 154, 3) := by decide +kernel
theorem dX7_round_28 : decode cX7_round 28 = .ok (.iconst 3, 1) := by decide +kernel
theorem dX7_round_29 : decode cX7_round 29 = .ok (.irem, 1) := by decide +kernel
theorem dX7_round_30 : decode cX7_round 30 = .ok (.istore_n 1, 1) := by decide +kernel
theorem dX7_round_31 : decode cX7_round 31 = .ok (.aload_n 0, 1) := by decide +kernel
theorem dX7_round_32 : decode cX7_round 32 = .ok (.iconst 0, 1) := by decide +kernel
theorem dX7_round_33 : decode cX7_round 33 = .ok (.iconst 1, 1) := by decide +kernel
theorem dX7_round_34 : decode cX7_round 34 = .ok (.iload_n 1, 1) := by decide +kernel
theorem dX7_round_35 : decode cX7_round 35 = .ok (.iadd, 1) := by decide +kernel
theorem dX7_round_36 : decode cX7_round 36 = .ok (.invokevirtual 157, 3) := by decide +kernel
theorem dX7_round_39 : decode cX7_round 39 = .ok (.aload_n 0, 1) := by decide +kernel
theorem dX7_round_40 : decode cX7_round 40 = .ok (.iload_n 1, 1) := by decide +kernel
theorem dX7_round_41 : decode cX7_round 41 = .ok (.invokestatic 160, 3) := by decide +kernel
theorem dX7_round_44 : decode cX7_round 44 = .ok (.iload_n 1, 1) := by decide +kernel
theorem dX7_round_45 : decode cX7_round 45 = .ok (.iconst 2, 1) := by decide +kernel
theorem dX7_round_46 : decode cX7_round 46 = .ok (.if_icmp .ne 7, 3) := by decide +kernel
theorem dX7_round_49 : decode cX7_round 49 = .ok (.iconst 2, 1) := by decide +kernel
theorem dX7_round_50 : decode cX7_round 50 = .ok (.goto 4, 3) := by decide +kernel
theorem dX7_round_53 : decode cX7_round 53 = .ok (.iconst 3, 1) := by decide +kernel
theorem dX7_round_54 : decode cX7_round 54 = .ok (.invokevirtual 157, 3) := by decide +kernel
theorem dX7_round_57 : decode cX7_round 57 = .ok (.aload_n 0, 1) := by decide +kernel
theorem dX7_round_58 : decode cX7_round 58 = .ok (.dup, 1) := by decide +kernel
theorem dX7_round_59 : decode cX7_round 59 = .ok (.getfield 154, 3) := by decide +kernel
theorem dX7_round_62 : decode cX7_round 62 = .ok (.iconst 1, 1) := by decide +kernel
theorem dX7_round_63 : decode cX7_round 63 = .ok (.iadd, 1) := by decide +kernel
theorem dX7_round_64 : decode cX7_round 64 = .ok (.putfield 154, 3) := by decide +kernel
theorem dX7_round_67 : decode cX7_round 67 = .ok (.iconst 0, 1) := by decide +kernel
theorem dX7_round_68 : decode cX7_round 68 = .ok (.istore_n 2, 1) := by decide +kernel
theorem dX7_round_69 : decode cX7_round 69 = .ok (.iconst 0, 1) := by decide +kernel
theorem dX7_round_70 : decode cX7_round 70 = .ok (.istore_n 3, 1) := by decide +kernel
theorem dX7_round_71 : decode cX7_round 71 = .ok (.iload_n 3, 1) := by decide +kernel
theorem dX7_round_72 : decode cX7_round 72 = .ok (.iconst 4, 1) := by decide +kernel
theorem dX7_round_73 : decode cX7_round 73 = .ok (.if_icmp .ge 97, 3) := by decide +kernel
theorem dX7_round_76 : decode cX7_round 76 = .ok (.aload_n 0, 1) := by decide +kernel
theorem dX7_round_77 : decode cX7_round 77 = .ok (.getfield 25, 3) := by decide +kernel
theorem dX7_round_80 : decode cX7_round 80 = .ok (.iload_n 3, 1) := by decide +kernel
theorem dX7_round_81 : decode cX7_round 81 = .ok (.iaload, 1) := by decide +kernel
theorem dX7_round_82 : decode cX7_round 82 = .ok (.iconst 1, 1) := by decide +kernel
theorem dX7_round_83 : decode cX7_round 83 = .ok (.if_icmp .gt 13, 3) := by decide +kernel
theorem dX7_round_86 : decode cX7_round 86 = .ok (.aload_n 0, 1) := by decide +kernel
theorem dX7_round_87 : decode cX7_round 87 = .ok (.getfield 25, 3) := by decide +kernel
theorem dX7_round_90 : decode cX7_round 90 = .ok (.iload_n 3, 1) := by decide +kernel
theorem dX7_round_91 : decode cX7_round 91 = .ok (.iaload, 1) := by decide +kernel
theorem dX7_round_92 : decode cX7_round 92 = .ok (.iconst (-1), 1) := by decide +kernel
theorem dX7_round_93 : decode cX7_round 93 = .ok (.if_icmp .ge 7, 3) := by decide +kernel
theorem dX7_round_96 : decode cX7_round 96 = .ok (.iconst 1, 1) := by decide +kernel
theorem dX7_round_97 : decode cX7_round 97 = .ok (.goto 4, 3) := by decide +kernel
theorem dX7_round_100 : decode cX7_round 100 = .ok (.iconst 0, 1) := by decide +kernel
theorem dX7_round_101 : decode cX7_round 101 = .ok (.istore 4, 2) := by decide +kernel
theorem dX7_round_103 : decode cX7_round 103 = .ok (.aload_n 0, 1) := by decide +kernel
theorem dX7_round_104 : decode cX7_round 104 = .ok (.getfield 16, 3) := by decide +kernel
theorem dX7_round_107 : decode cX7_round 107 = .ok (.iload_n 3, 1) := by decide +kernel
theorem dX7_round_108 : decode cX7_round 108 = .ok (.aload_n 0, 1) := by decide +kernel
theorem dX7_round_109 : decode cX7_round 109 = .ok (.getfield 16, 3) := by decide +kernel
theorem dX7_round_112 : decode cX7_round 112 = .ok (.iload_n 3, 1) := by decide +kernel
theorem dX7_round_113 : decode cX7_round 113 = .ok (.iaload, 1) := by decide +kernel
theorem dX7_round_114 : decode cX7_round 114 = .ok (.iconst 3, 1) := by decide +kernel
theorem dX7_round_115 : decode cX7_round 115 = .ok (.iadd, 1) := by decide +kernel
theorem dX7_round_116 : decode cX7_round 116 = .ok (.aload_n 0, 1) := by decide +kernel
theorem dX7_round_117 : decode cX7_round 117 = .ok (.getfield 16, 3) := by decide +kernel
theorem dX7_round_120 : decode cX7_round 120 = .ok (.iload_n 3, 1) := by decide +kernel
theorem dX7_round_121 : decode cX7_round 121 = .ok (.iaload, 1) := by decide +kernel
theorem dX7_round_122 : decode cX7_round 122 = .ok (.bipush 10, 2) := by decide +kernel
theorem dX7_round_124 : decode cX7_round 124 = .ok (.idiv, 1) := by decide +kernel
theorem dX7_round_125 : decode cX7_round 125 = .ok (.iconst 3, 1) := by decide +kernel
theorem dX7_round_126 : decode cX7_round 126 = .ok (.invokestatic 129, 3) := by decide +kernel
theorem dX7_round_129 : decode cX7_round 129 = .ok (.iadd, 1) := by decide +kernel
theorem dX7_round_130 : decode cX7_round 130 = .ok (.iload 4, 2) := by decide +kernel
theorem dX7_round_132 : decode cX7_round 132 = .ok (.ifCond .eq 7, 3) := by decide +kernel
theorem dX7_round_135 : decode cX7_round 135 = .ok (.iconst 1, 1) := by decide +kernel
theorem dX7_round_136 : decode cX7_round 136 = .ok (.goto 4, 3) := by decide +kernel
theorem dX7_round_139 : decode cX7_round 139 = .ok (.iconst 0, 1) := by decide +kernel
theorem dX7_round_140 : decode cX7_round 140 = .ok (.iadd, 1) := by decide +kernel
theorem dX7_round_141 : decode cX7_round 141 = .ok (.bipush 100, 2) := by decide +kernel
theorem dX7_round_143 : decode cX7_round 143 = .ok (.invokestatic 129, 3) := by decide +kernel
theorem dX7_round_146 : decode cX7_round 146 = .ok (.iastore, 1) := by decide +kernel
theorem dX7_round_147 : decode cX7_round 147 = .ok (.iload_n 2, 1) := by decide +kernel
theorem dX7_round_148 : decode cX7_round 148 = .ok (.aload_n 0, 1) := by decide +kernel
theorem dX7_round_149 : decode cX7_round 149 = .ok (.getfield 22, 3) := by decide +kernel
theorem dX7_round_152 : decode cX7_round 152 = .ok (.iload_n 3, 1) := by decide +kernel
theorem dX7_round_153 : decode cX7_round 153 = .ok (.iaload, 1) := by decide +kernel
theorem dX7_round_154 : decode cX7_round 154 = .ok (.ifCond .le 7, 3) := by decide +kernel
theorem dX7_round_157 : decode cX7_round 157 = .ok (.iconst 1, 1) := by decide +kernel
theorem dX7_round_158 : decode cX7_round 158 = .ok (.goto 4, 3) := by decide +kernel
theorem dX7_round_161 : decode cX7_round 161 = .ok (.iconst 0, 1) := by decide +kernel
theorem dX7_round_162 : decode cX7_round 162 = .ok (.iadd, 1) := by decide +kernel
theorem dX7_round_163 : decode cX7_round 163 = .ok (.istore_n 2, 1) := by decide +kernel
theorem dX7_round_164 : decode cX7_round 164 = .ok (.iinc 3 1, 3) := by decide +kernel
theorem dX7_round_167 : decode cX7_round 167 = .ok (.goto (-96), 3) := by decide +kernel
theorem dX7_round_170 : decode cX7_round 170 = .ok (.iconst 0, 1) := by decide +kernel
theorem dX7_round_171 : decode cX7_round 171 = .ok (.istore_n 3, 1) := by decide +kernel
theorem dX7_round_172 : decode cX7_round 172 = .ok (.iload_n 3, 1) := by decide +kernel
theorem dX7_round_173 : decode cX7_round 173 = .ok (.iconst 4, 1) := by decide +kernel
theorem dX7_round_174 : decode cX7_round 174 = .ok (.if_icmp .ge 30, 3) := by decide +kernel
theorem dX7_round_177 : decode cX7_round 177 = .ok (.aload_n 0, 1) := by decide +kernel
theorem dX7_round_178 : decode cX7_round 178 = .ok (.getfield 31, 3) := by decide +kernel
theorem dX7_round_181 : decode cX7_round 181 = .ok (.iload_n 3, 1) := by decide +kernel
theorem dX7_round_182 : decode cX7_round 182 = .ok (.baload, 1) := by decide +kernel
theorem dX7_round_183 : decode cX7_round 183 = .ok (.ifCond .ne 8, 3) := by decide +kernel
theorem dX7_round_186 : decode cX7_round 186 = .ok (.aload_n 0, 1) := by decide +kernel
theorem dX7_round_187 : decode cX7_round 187 = .ok (.iload_n 3, 1) := by decide +kernel
theorem dX7_round_188 : decode cX7_round 188 = .ok (.invokevirtual 89, 3) := by decide +kernel
theorem dX7_round_191 : decode cX7_round 191 = .ok (.aload_n 0, 1) := by decide +kernel
theorem dX7_round_192 : decode cX7_round 192 = .ok (.getfield 31, 3) := by decide +kernel
theorem dX7_round_195 : decode cX7_round 195 = .ok (.iload_n 3, 1) := by decide +kernel
theorem dX7_round_196 : decode cX7_round 196 = .ok (.iconst 0, 1) := by decide +kernel
theorem dX7_round_197 : decode cX7_round 197 = .ok (.bastore, 1) := by decide +kernel
theorem dX7_round_198 : decode cX7_round 198 = .ok (.iinc 3 1, 3) := by decide +kernel
theorem dX7_round_201 : decode cX7_round 201 = .ok (.goto (-29), 3) := by decide +kernel
theorem dX7_round_204 : decode cX7_round 204 = .ok (.iload_n 2, 1) := by decide +kernel
theorem dX7_round_205 : decode cX7_round 205 = .ok (.ireturn, 1) := by decide +kernel
theorem dX7_rounds_0 : decode cX7_rounds 0 = .ok (.aload_n 0, 1) := by decide +kernel
theorem dX7_rounds_1 : decode cX7_rounds 1 = .ok (.iconst 0, 1) := by decide +kernel
theorem dX7_rounds_2 : decode cX7_rounds 2 = .ok (.putfield 56, 3) := by decide +kernel
theorem dX7_rounds_5 : decode cX7_rounds 5 = .ok (.aload_n 0, 1) := by decide +kernel
theorem dX7_rounds_6 : decode cX7_rounds 6 = .ok (.getfield 154, 3) := by decide +kernel
theorem dX7_rounds_9 : decode cX7_rounds 9 = .ok (.ireturn, 1) := by decide +kernel
theorem dX7_mayFight_0 : decode cX7_mayFight 0 = .ok (.aload_n 0, 1) := by decide +kernel
theorem dX7_mayFight_1 : decode cX7_mayFight 1 = .ok (.iload_n 1, 1) := by decide +kernel
theorem dX7_mayFight_2 : decode cX7_mayFight 2 = .ok (.invokestatic 64, 3) := by decide +kernel
theorem dX7_mayFight_5 : decode cX7_mayFight 5 = .ok (.ifCond .eq 10, 3) := by decide +kernel
theorem dX7_mayFight_8 : decode cX7_mayFight 8 = .ok (.iload_n 2, 1) := by decide +kernel
theorem dX7_mayFight_9 : decode cX7_mayFight 9 = .ok (.invokestatic 64, 3) := by decide +kernel
theorem dX7_mayFight_12 : decode cX7_mayFight 12 = .ok (.ifCond .ne 7, 3) := by decide +kernel
theorem dX7_mayFight_15 : decode cX7_mayFight 15 = .ok (.iconst 1, 1) := by decide +kernel
theorem dX7_mayFight_16 : decode cX7_mayFight 16 = .ok (.goto 13, 3) := by decide +kernel
theorem dX7_mayFight_19 : decode cX7_mayFight 19 = .ok (.iload_n 1, 1) := by decide +kernel
theorem dX7_mayFight_20 : decode cX7_mayFight 20 = .ok (.iload_n 2, 1) := by decide +kernel
theorem dX7_mayFight_21 : decode cX7_mayFight 21 = .ok (.if_icmp .ne 7, 3) := by decide +kernel
theorem dX7_mayFight_24 : decode cX7_mayFight 24 = .ok (.iconst 2, 1) := by decide +kernel
theorem dX7_mayFight_25 : decode cX7_mayFight 25 = .ok (.goto 4, 3) := by decide +kernel
theorem dX7_mayFight_28 : decode cX7_mayFight 28 = .ok (.iconst 0, 1) := by decide +kernel
theorem dX7_mayFight_29 : decode cX7_mayFight 29 = .ok (.invokevirtual 71, 3) := by decide +kernel
theorem dX7_mayFight_32 : decode cX7_mayFight 32 = .ok (.ireturn, 1) := by decide +kernel
theorem dX7_fight_0 : decode cX7_fight 0 = .ok (.aload_n 0, 1) := by decide +kernel
theorem dX7_fight_1 : decode cX7_fight 1 = .ok (.iload_n 1, 1) := by decide +kernel
theorem dX7_fight_2 : decode cX7_fight 2 = .ok (.iload_n 2, 1) := by decide +kernel
theorem dX7_fight_3 : decode cX7_fight 3 = .ok (.invokevirtual 163, 3) := by decide +kernel
theorem dX7_fight_6 : decode cX7_fight 6 = .ok (.ifCond .eq 12, 3) := by decide +kernel
theorem dX7_fight_9 : decode cX7_fight 9 = .ok (.aload_n 0, 1) := by decide +kernel
theorem dX7_fight_10 : decode cX7_fight 10 = .ok (.iload_n 1, 1) := by decide +kernel
theorem dX7_fight_11 : decode cX7_fight 11 = .ok (.iload_n 2, 1) := by decide +kernel
theorem dX7_fight_12 : decode cX7_fight 12 = .ok (.invokevirtual 147, 3) := by decide +kernel
theorem dX7_fight_15 : decode cX7_fight 15 = .ok (.goto 4, 3) := by decide +kernel
theorem dX7_fight_18 : decode cX7_fight 18 = .ok (.iconst 0, 1) := by decide +kernel
theorem dX7_fight_19 : decode cX7_fight 19 = .ok (.ireturn, 1) := by decide +kernel
theorem dX7_fightByRecord_0 : decode cX7_fightByRecord 0 = .ok (.aload_n 0, 1) := by decide +kernel
theorem dX7_fightByRecord_1 : decode cX7_fightByRecord 1 = .ok (.iload_n 1, 1) := by decide +kernel
theorem dX7_fightByRecord_2 : decode cX7_fightByRecord 2 = .ok (.iload_n 2, 1) := by decide +kernel
theorem dX7_fightByRecord_3 : decode cX7_fightByRecord 3 = .ok (.invokevirtual 163, 3) := by decide +kernel
theorem dX7_fightByRecord_6 : decode cX7_fightByRecord 6 = .ok (.ifCond .eq 12, 3) := by decide +kernel
theorem dX7_fightByRecord_9 : decode cX7_fightByRecord 9 = .ok (.aload_n 0, 1) := by decide +kernel
theorem dX7_fightByRecord_10 : decode cX7_fightByRecord 10 = .ok (.iload_n 1, 1) := by decide +kernel
theorem dX7_fightByRecord_11 : decode cX7_fightByRecord 11 = .ok (.iload_n 2, 1) := by decide +kernel
theorem dX7_fightByRecord_12 : decode cX7_fightByRecord 12 = .ok (.invokevirtual 147, 3) := by decide +kernel
theorem dX7_fightByRecord_15 : decode cX7_fightByRecord 15 = .ok (.goto 4, 3) := by decide +kernel
theorem dX7_fightByRecord_18 : decode cX7_fightByRecord 18 = .ok (.iconst 0, 1) := by decide +kernel
theorem dX7_fightByRecord_19 : decode cX7_fightByRecord 19 = .ok (.ireturn, 1) := by decide +kernel
theorem dX7_gold_0 : decode cX7_gold 0 = .ok (.aload_n 0, 1) := by decide +kernel
theorem dX7_gold_1 : decode cX7_gold 1 = .ok (.iload_n 1, 1) := by decide +kernel
theorem dX7_gold_2 : decode cX7_gold 2 = .ok (.invokestatic 64, 3) := by decide +kernel
theorem dX7_gold_5 : decode cX7_gold 5 = .ok (.ifCond .eq 7, 3) := by decide +kernel
theorem dX7_gold_8 : decode cX7_gold 8 = .ok (.iconst 0, 1) := by decide +kernel
theorem dX7_gold_9 : decode cX7_gold 9 = .ok (.goto 4, 3) := by decide +kernel
theorem dX7_gold_12 : decode cX7_gold 12 = .ok (.iconst 1, 1) := by decide +kernel
theorem dX7_gold_13 : decode cX7_gold 13 = .ok (.invokevirtual 71, 3) := by decide +kernel
theorem dX7_gold_16 : decode cX7_gold 16 = .ok (.ifCond .eq 12, 3) := by decide +kernel
theorem dX7_gold_19 : decode cX7_gold 19 = .ok (.aload_n 0, 1) := by decide +kernel
theorem dX7_gold_20 : decode cX7_gold 20 = .ok (.getfield 16, 3) := by decide +kernel
theorem dX7_gold_23 : decode cX7_gold 23 = .ok (.iload_n 1, 1) := by decide +kernel
theorem dX7_gold_24 : decode cX7_gold 24 = .ok (.iaload, 1) := by decide +kernel
theorem dX7_gold_25 : decode cX7_gold 25 = .ok (.goto 4, 3) := by decide +kernel
theorem dX7_gold_28 : decode cX7_gold 28 = .ok (.iconst 0, 1) := by decide +kernel
theorem dX7_gold_29 : decode cX7_gold 29 = .ok (.ireturn, 1) := by decide +kernel
theorem dX7_health_0 : decode cX7_health 0 = .ok (.aload_n 0, 1) := by decide +kernel
theorem dX7_health_1 : decode cX7_health 1 = .ok (.iload_n 1, 1) := by decide +kernel
theorem dX7_health_2 : decode cX7_health 2 = .ok (.invokestatic 64, 3) := by decide +kernel
theorem dX7_health_5 : decode cX7_health 5 = .ok (.ifCond .eq 7, 3) := by decide +kernel
theorem dX7_health_8 : decode cX7_health 8 = .ok (.iconst 0, 1) := by decide +kernel
theorem dX7_health_9 : decode cX7_health 9 = .ok (.goto 4, 3) := by decide +kernel
theorem dX7_health_12 : decode cX7_health 12 = .ok (.iconst 1, 1) := by decide +kernel
theorem dX7_health_13 : decode cX7_health 13 = .ok (.invokevirtual 71, 3) := by decide +kernel
theorem dX7_health_16 : decode cX7_health 16 = .ok (.ifCond .eq 12, 3) := by decide +kernel
theorem dX7_health_19 : decode cX7_health 19 = .ok (.aload_n 0, 1) := by decide +kernel
theorem dX7_health_20 : decode cX7_health 20 = .ok (.getfield 22, 3) := by decide +kernel
theorem dX7_health_23 : decode cX7_health 23 = .ok (.iload_n 1, 1) := by decide +kernel
theorem dX7_health_24 : decode cX7_health 24 = .ok (.iaload, 1) := by decide +kernel
theorem dX7_health_25 : decode cX7_health 25 = .ok (.goto 4, 3) := by decide +kernel
theorem dX7_health_28 : decode cX7_health 28 = .ok (.iconst 0, 1) := by decide +kernel
theorem dX7_health_29 : decode cX7_health 29 = .ok (.ireturn, 1) := by decide +kernel
theorem dX7_streak_0 : decode cX7_streak 0 = .ok (.aload_n 0, 1) := by decide +kernel
theorem dX7_streak_1 : decode cX7_streak 1 = .ok (.iload_n 1, 1) := by decide +kernel
theorem dX7_streak_2 : decode cX7_streak 2 = .ok (.invokestatic 64, 3) := by decide +kernel
theorem dX7_streak_5 : decode cX7_streak 5 = .ok (.ifCond .eq 7, 3) := by decide +kernel
theorem dX7_streak_8 : decode cX7_streak 8 = .ok (.iconst 0, 1) := by decide +kernel
theorem dX7_streak_9 : decode cX7_streak 9 = .ok (.goto 4, 3) := by decide +kernel
theorem dX7_streak_12 : decode cX7_streak 12 = .ok (.iconst 1, 1) := by decide +kernel
theorem dX7_streak_13 : decode cX7_streak 13 = .ok (.invokevirtual 71, 3) := by decide +kernel
theorem dX7_streak_16 : decode cX7_streak 16 = .ok (.ifCond .eq 12, 3) := by decide +kernel
theorem dX7_streak_19 : decode cX7_streak 19 = .ok (.aload_n 0, 1) := by decide +kernel
theorem dX7_streak_20 : decode cX7_streak 20 = .ok (.getfield 25, 3) := by decide +kernel
theorem dX7_streak_23 : decode cX7_streak 23 = .ok (.iload_n 1, 1) := by decide +kernel
theorem dX7_streak_24 : decode cX7_streak 24 = .ok (.iaload, 1) := by decide +kernel
theorem dX7_streak_25 : decode cX7_streak 25 = .ok (.goto 4, 3) := by decide +kernel
theorem dX7_streak_28 : decode cX7_streak 28 = .ok (.iconst 0, 1) := by decide +kernel
theorem dX7_streak_29 : decode cX7_streak 29 = .ok (.ireturn, 1) := by decide +kernel
theorem dX7_shopAt_0 : decode cX7_shopAt 0 = .ok (.aload_n 0, 1) := by decide +kernel
theorem dX7_shopAt_1 : decode cX7_shopAt 1 = .ok (.iload_n 1, 1) := by decide +kernel
theorem dX7_shopAt_2 : decode cX7_shopAt 2 = .ok (.iload_n 2, 1) := by decide +kernel
theorem dX7_shopAt_3 : decode cX7_shopAt 3 = .ok (.invokestatic 113, 3) := by decide +kernel
theorem dX7_shopAt_6 : decode cX7_shopAt 6 = .ok (.ifCond .eq 7, 3) := by decide +kernel
theorem dX7_shopAt_9 : decode cX7_shopAt 9 = .ok (.iconst 0, 1) := by decide +kernel
theorem dX7_shopAt_10 : decode cX7_shopAt 10 = .ok (.goto 4, 3) := by decide +kernel
theorem dX7_shopAt_13 : decode cX7_shopAt 13 = .ok (.iconst 1, 1) := by decide +kernel
theorem dX7_shopAt_14 : decode cX7_shopAt 14 = .ok (.invokevirtual 71, 3) := by decide +kernel
theorem dX7_shopAt_17 : decode cX7_shopAt 17 = .ok (.ifCond .eq 16, 3) := by decide +kernel
theorem dX7_shopAt_20 : decode cX7_shopAt 20 = .ok (.aload_n 0, 1) := by decide +kernel
theorem dX7_shopAt_21 : decode cX7_shopAt 21 = .ok (.getfield 28, 3) := by decide +kernel
theorem dX7_shopAt_24 : decode cX7_shopAt 24 = .ok (.iconst 3, 1) := by decide +kernel
theorem dX7_shopAt_25 : decode cX7_shopAt 25 = .ok (.iload_n 1, 1) := by decide +kernel
theorem dX7_shopAt_26 : decode cX7_shopAt 26 = .ok (.imul, 1) := by decide +kernel
theorem dX7_shopAt_27 : decode cX7_shopAt 27 = .ok (.iload_n 2, 1) := by decide +kernel
theorem dX7_shopAt_28 : decode cX7_shopAt 28 = .ok (.iadd, 1) := by decide +kernel
theorem dX7_shopAt_29 : decode cX7_shopAt 29 = .ok (.iaload, 1) := by decide +kernel
theorem dX7_shopAt_30 : decode cX7_shopAt 30 = .ok (.goto 4, 3) := by decide +kernel
theorem dX7_shopAt_33 : decode cX7_shopAt 33 = .ok (.iconst 0, 1) := by decide +kernel
theorem dX7_shopAt_34 : decode cX7_shopAt 34 = .ok (.ireturn, 1) := by decide +kernel
theorem dX7_benchAt_0 : decode cX7_benchAt 0 = .ok (.aload_n 0, 1) := by decide +kernel
theorem dX7_benchAt_1 : decode cX7_benchAt 1 = .ok (.iload_n 1, 1) := by decide +kernel
theorem dX7_benchAt_2 : decode cX7_benchAt 2 = .ok (.invokestatic 64, 3) := by decide +kernel
theorem dX7_benchAt_5 : decode cX7_benchAt 5 = .ok (.ifCond .eq 16, 3) := by decide +kernel
theorem dX7_benchAt_8 : decode cX7_benchAt 8 = .ok (.iload_n 2, 1) := by decide +kernel
theorem dX7_benchAt_9 : decode cX7_benchAt 9 = .ok (.iconst 0, 1) := by decide +kernel
theorem dX7_benchAt_10 : decode cX7_benchAt 10 = .ok (.iconst 5, 1) := by decide +kernel
theorem dX7_benchAt_11 : decode cX7_benchAt 11 = .ok (.invokestatic 60, 3) := by decide +kernel
theorem dX7_benchAt_14 : decode cX7_benchAt 14 = .ok (.ifCond .eq 7, 3) := by decide +kernel
theorem dX7_benchAt_17 : decode cX7_benchAt 17 = .ok (.iconst 0, 1) := by decide +kernel
theorem dX7_benchAt_18 : decode cX7_benchAt 18 = .ok (.goto 4, 3) := by decide +kernel
theorem dX7_benchAt_21 : decode cX7_benchAt 21 = .ok (.iconst 1, 1) := by decide +kernel
theorem dX7_benchAt_22 : decode cX7_benchAt 22 = .ok (.invokevirtual 71, 3) := by decide +kernel
theorem dX7_benchAt_25 : decode cX7_benchAt 25 = .ok (.ifCond .ne 5, 3) := by decide +kernel
theorem dX7_benchAt_28 : decode cX7_benchAt 28 = .ok (.iconst 0, 1) := by decide +kernel
theorem dX7_benchAt_29 : decode cX7_benchAt 29 = .ok (.ireturn, 1) := by decide +kernel
theorem dX7_benchAt_30 : decode cX7_benchAt 30 = .ok (.iload_n 2, 1) := by decide +kernel
theorem dX7_benchAt_31 : decode cX7_benchAt 31 = .ok (.aload_n 0, 1) := by decide +kernel
theorem dX7_benchAt_32 : decode cX7_benchAt 32 = .ok (.getfield 35, 3) := by decide +kernel
theorem dX7_benchAt_35 : decode cX7_benchAt 35 = .ok (.iload_n 1, 1) := by decide +kernel
theorem dX7_benchAt_36 : decode cX7_benchAt 36 = .ok (.iaload, 1) := by decide +kernel
theorem dX7_benchAt_37 : decode cX7_benchAt 37 = .ok (.if_icmp .ge 17, 3) := by decide +kernel
theorem dX7_benchAt_40 : decode cX7_benchAt 40 = .ok (.aload_n 0, 1) := by decide +kernel
theorem dX7_benchAt_41 : decode cX7_benchAt 41 = .ok (.getfield 38, 3) := by decide +kernel
theorem dX7_benchAt_44 : decode cX7_benchAt 44 = .ok (.bipush 6, 2) := by decide +kernel
theorem dX7_benchAt_46 : decode cX7_benchAt 46 = .ok (.iload_n 1, 1) := by decide +kernel
theorem dX7_benchAt_47 : decode cX7_benchAt 47 = .ok (.imul, 1) := by decide +kernel
theorem dX7_benchAt_48 : decode cX7_benchAt 48 = .ok (.iload_n 2, 1) := by decide +kernel
theorem dX7_benchAt_49 : decode cX7_benchAt 49 = .ok (.iadd, 1) := by decide +kernel
theorem dX7_benchAt_50 : decode cX7_benchAt 50 = .ok (.iaload, 1) := by decide +kernel
theorem dX7_benchAt_51 : decode cX7_benchAt 51 = .ok (.goto 4, 3) := by decide +kernel
theorem dX7_benchAt_54 : decode cX7_benchAt 54 = .ok (.iconst (-1), 1) := by decide +kernel
theorem dX7_benchAt_55 : decode cX7_benchAt 55 = .ok (.ireturn, 1) := by decide +kernel
theorem dX7_boardAt_0 : decode cX7_boardAt 0 = .ok (.aload_n 0, 1) := by decide +kernel
theorem dX7_boardAt_1 : decode cX7_boardAt 1 = .ok (.iload_n 1, 1) := by decide +kernel
theorem dX7_boardAt_2 : decode cX7_boardAt 2 = .ok (.invokestatic 64, 3) := by decide +kernel
theorem dX7_boardAt_5 : decode cX7_boardAt 5 = .ok (.ifCond .eq 16, 3) := by decide +kernel
theorem dX7_boardAt_8 : decode cX7_boardAt 8 = .ok (.iload_n 2, 1) := by decide +kernel
theorem dX7_boardAt_9 : decode cX7_boardAt 9 = .ok (.iconst 0, 1) := by decide +kernel
theorem dX7_boardAt_10 : decode cX7_boardAt 10 = .ok (.iconst 4, 1) := by decide +kernel
theorem dX7_boardAt_11 : decode cX7_boardAt 11 = .ok (.invokestatic 60, 3) := by decide +kernel
theorem dX7_boardAt_14 : decode cX7_boardAt 14 = .ok (.ifCond .eq 7, 3) := by decide +kernel
theorem dX7_boardAt_17 : decode cX7_boardAt 17 = .ok (.iconst 0, 1) := by decide +kernel
theorem dX7_boardAt_18 : decode cX7_boardAt 18 = .ok (.goto 4, 3) := by decide +kernel
theorem dX7_boardAt_21 : decode cX7_boardAt 21 = .ok (.iconst 1, 1) := by decide +kernel
theorem dX7_boardAt_22 : decode cX7_boardAt 22 = .ok (.invokevirtual 71, 3) := by decide +kernel
theorem dX7_boardAt_25 : decode cX7_boardAt 25 = .ok (.ifCond .ne 5, 3) := by decide +kernel
theorem dX7_boardAt_28 : decode cX7_boardAt 28 = .ok (.iconst 0, 1) := by decide +kernel
theorem dX7_boardAt_29 : decode cX7_boardAt 29 = .ok (.ireturn, 1) := by decide +kernel
theorem dX7_boardAt_30 : decode cX7_boardAt 30 = .ok (.iload_n 2, 1) := by decide +kernel
theorem dX7_boardAt_31 : decode cX7_boardAt 31 = .ok (.aload_n 0, 1) := by decide +kernel
theorem dX7_boardAt_32 : decode cX7_boardAt 32 = .ok (.getfield 41, 3) := by decide +kernel
theorem dX7_boardAt_35 : decode cX7_boardAt 35 = .ok (.iload_n 1, 1) := by decide +kernel
theorem dX7_boardAt_36 : decode cX7_boardAt 36 = .ok (.iaload, 1) := by decide +kernel
theorem dX7_boardAt_37 : decode cX7_boardAt 37 = .ok (.if_icmp .ge 16, 3) := by decide +kernel
theorem dX7_boardAt_40 : decode cX7_boardAt 40 = .ok (.aload_n 0, 1) := by decide +kernel
theorem dX7_boardAt_41 : decode cX7_boardAt 41 = .ok (.getfield 44, 3) := by decide +kernel
theorem dX7_boardAt_44 : decode cX7_boardAt 44 = .ok (.iconst 5, 1) := by decide +kernel
theorem dX7_boardAt_45 : decode cX7_boardAt 45 = .ok (.iload_n 1, 1) := by decide +kernel
theorem dX7_boardAt_46 : decode cX7_boardAt 46 = .ok (.imul, 1) := by decide +kernel
theorem dX7_boardAt_47 : decode cX7_boardAt 47 = .ok (.iload_n 2, 1) := by decide +kernel
theorem dX7_boardAt_48 : decode cX7_boardAt 48 = .ok (.iadd, 1) := by decide +kernel
theorem dX7_boardAt_49 : decode cX7_boardAt 49 = .ok (.iaload, 1) := by decide +kernel
theorem dX7_boardAt_50 : decode cX7_boardAt 50 = .ok (.goto 4, 3) := by decide +kernel
theorem dX7_boardAt_53 : decode cX7_boardAt 53 = .ok (.iconst (-1), 1) := by decide +kernel
theorem dX7_boardAt_54 : decode cX7_boardAt 54 = .ok (.ireturn, 1) := by decide +kernel
theorem dX7_blow_0 : decode cX7_blow 0 = .ok (.aload_n 0, 1) := by decide +kernel
theorem dX7_blow_1 : decode cX7_blow 1 = .ok (.aload_n 0, 1) := by decide +kernel
theorem dX7_blow_2 : decode cX7_blow 2 = .ok (.iload_n 1, 1) := by decide +kernel
theorem dX7_blow_3 : decode cX7_blow 3 = .ok (.iload_n 2, 1) := by decide +kernel
theorem dX7_blow_4 : decode cX7_blow 4 = .ok (.invokevirtual 132, 3) := by decide +kernel
theorem dX7_blow_7 : decode cX7_blow 7 = .ok (.ifCond .eq 7, 3) := by decide +kernel
theorem dX7_blow_10 : decode cX7_blow 10 = .ok (.iconst 0, 1) := by decide +kernel
theorem dX7_blow_11 : decode cX7_blow 11 = .ok (.goto 4, 3) := by decide +kernel
theorem dX7_blow_14 : decode cX7_blow 14 = .ok (.iconst 1, 1) := by decide +kernel
theorem dX7_blow_15 : decode cX7_blow 15 = .ok (.invokevirtual 71, 3) := by decide +kernel
theorem dX7_blow_18 : decode cX7_blow 18 = .ok (.ifCond .eq 12, 3) := by decide +kernel
theorem dX7_blow_21 : decode cX7_blow 21 = .ok (.aload_n 0, 1) := by decide +kernel
theorem dX7_blow_22 : decode cX7_blow 22 = .ok (.iload_n 1, 1) := by decide +kernel
theorem dX7_blow_23 : decode cX7_blow 23 = .ok (.iload_n 2, 1) := by decide +kernel
theorem dX7_blow_24 : decode cX7_blow 24 = .ok (.invokevirtual 135, 3) := by decide +kernel
theorem dX7_blow_27 : decode cX7_blow 27 = .ok (.goto 4, 3) := by decide +kernel
theorem dX7_blow_30 : decode cX7_blow 30 = .ok (.iconst 0, 1) := by decide +kernel
theorem dX7_blow_31 : decode cX7_blow 31 = .ok (.ireturn, 1) := by decide +kernel
theorem dX7_isKind_0 : decode cX7_isKind 0 = .ok (.iload_n 0, 1) := by decide +kernel
theorem dX7_isKind_1 : decode cX7_isKind 1 = .ok (.iconst 0, 1) := by decide +kernel
theorem dX7_isKind_2 : decode cX7_isKind 2 = .ok (.bipush 8, 2) := by decide +kernel
theorem dX7_isKind_4 : decode cX7_isKind 4 = .ok (.invokestatic 60, 3) := by decide +kernel
theorem dX7_isKind_7 : decode cX7_isKind 7 = .ok (.ireturn, 1) := by decide +kernel
theorem dX7_pool_0 : decode cX7_pool 0 = .ok (.aload_n 0, 1) := by decide +kernel
theorem dX7_pool_1 : decode cX7_pool 1 = .ok (.iload_n 1, 1) := by decide +kernel
theorem dX7_pool_2 : decode cX7_pool 2 = .ok (.invokestatic 166, 3) := by decide +kernel
theorem dX7_pool_5 : decode cX7_pool 5 = .ok (.ifCond .eq 7, 3) := by decide +kernel
theorem dX7_pool_8 : decode cX7_pool 8 = .ok (.iconst 0, 1) := by decide +kernel
theorem dX7_pool_9 : decode cX7_pool 9 = .ok (.goto 4, 3) := by decide +kernel
theorem dX7_pool_12 : decode cX7_pool 12 = .ok (.iconst 1, 1) := by decide +kernel
theorem dX7_pool_13 : decode cX7_pool 13 = .ok (.invokevirtual 71, 3) := by decide +kernel
theorem dX7_pool_16 : decode cX7_pool 16 = .ok (.ifCond .eq 12, 3) := by decide +kernel
theorem dX7_pool_19 : decode cX7_pool 19 = .ok (.aload_n 0, 1) := by decide +kernel
theorem dX7_pool_20 : decode cX7_pool 20 = .ok (.getfield 13, 3) := by decide +kernel
theorem dX7_pool_23 : decode cX7_pool 23 = .ok (.iload_n 1, 1) := by decide +kernel
theorem dX7_pool_24 : decode cX7_pool 24 = .ok (.iaload, 1) := by decide +kernel
theorem dX7_pool_25 : decode cX7_pool 25 = .ok (.goto 4, 3) := by decide +kernel
theorem dX7_pool_28 : decode cX7_pool 28 = .ok (.iconst 0, 1) := by decide +kernel
theorem dX7_pool_29 : decode cX7_pool 29 = .ok (.ireturn, 1) := by decide +kernel
theorem dX7_out_0 : decode cX7_out 0 = .ok (.aload_n 0, 1) := by decide +kernel
theorem dX7_out_1 : decode cX7_out 1 = .ok (.iload_n 1, 1) := by decide +kernel
theorem dX7_out_2 : decode cX7_out 2 = .ok (.invokestatic 166, 3) := by decide +kernel
theorem dX7_out_5 : decode cX7_out 5 = .ok (.ifCond .eq 7, 3) := by decide +kernel
theorem dX7_out_8 : decode cX7_out 8 = .ok (.iconst 0, 1) := by decide +kernel
theorem dX7_out_9 : decode cX7_out 9 = .ok (.goto 4, 3) := by decide +kernel
theorem dX7_out_12 : decode cX7_out 12 = .ok (.iconst 1, 1) := by decide +kernel
theorem dX7_out_13 : decode cX7_out 13 = .ok (.invokevirtual 71, 3) := by decide +kernel
theorem dX7_out_16 : decode cX7_out 16 = .ok (.ifCond .ne 5, 3) := by decide +kernel
theorem dX7_out_19 : decode cX7_out 19 = .ok (.iconst 0, 1) := by decide +kernel
theorem dX7_out_20 : decode cX7_out 20 = .ok (.ireturn, 1) := by decide +kernel
theorem dX7_out_21 : decode cX7_out 21 = .ok (.iconst 0, 1) := by decide +kernel
theorem dX7_out_22 : decode cX7_out 22 = .ok (.istore_n 2, 1) := by decide +kernel
theorem dX7_out_23 : decode cX7_out 23 = .ok (.iconst 0, 1) := by decide +kernel
theorem dX7_out_24 : decode cX7_out 24 = .ok (.istore_n 3, 1) := by decide +kernel
theorem dX7_out_25 : decode cX7_out 25 = .ok (.iload_n 3, 1) := by decide +kernel
theorem dX7_out_26 : decode cX7_out 26 = .ok (.bipush 12, 2) := by decide +kernel
theorem dX7_out_28 : decode cX7_out 28 = .ok (.if_icmp .ge 27, 3) := by decide +kernel
theorem dX7_out_31 : decode cX7_out 31 = .ok (.iload_n 2, 1) := by decide +kernel
theorem dX7_out_32 : decode cX7_out 32 = .ok (.aload_n 0, 1) := by decide +kernel
theorem dX7_out_33 : decode cX7_out 33 = .ok (.getfield 28, 3) := by decide +kernel
theorem dX7_out_36 : decode cX7_out 36 = .ok (.iload_n 3, 1) := by decide +kernel
theorem dX7_out_37 : decode cX7_out 37 = .ok (.iaload, 1) := by decide +kernel
theorem dX7_out_38 : decode cX7_out 38 = .ok (.iload_n 1, 1) := by decide +kernel
theorem dX7_out_39 : decode cX7_out 39 = .ok (.if_icmp .ne 7, 3) := by decide +kernel
theorem dX7_out_42 : decode cX7_out 42 = .ok (.iconst 1, 1) := by decide +kernel
theorem dX7_out_43 : decode cX7_out 43 = .ok (.goto 4, 3) := by decide +kernel
theorem dX7_out_46 : decode cX7_out 46 = .ok (.iconst 0, 1) := by decide +kernel
theorem dX7_out_47 : decode cX7_out 47 = .ok (.iadd, 1) := by decide +kernel
theorem dX7_out_48 : decode cX7_out 48 = .ok (.istore_n 2, 1) := by decide +kernel
theorem dX7_out_49 : decode cX7_out 49 = .ok (.iinc 3 1, 3) := by decide +kernel
theorem dX7_out_52 : decode cX7_out 52 = .ok (.goto (-27), 3) := by decide +kernel
theorem dX7_out_55 : decode cX7_out 55 = .ok (.iconst 0, 1) := by decide +kernel
theorem dX7_out_56 : decode cX7_out 56 = .ok (.istore_n 3, 1) := by decide +kernel
theorem dX7_out_57 : decode cX7_out 57 = .ok (.iload_n 3, 1) := by decide +kernel
theorem dX7_out_58 : decode cX7_out 58 = .ok (.iconst 4, 1) := by decide +kernel
theorem dX7_out_59 : decode cX7_out 59 = .ok (.if_icmp .ge 45, 3) := by decide +kernel
theorem dX7_out_62 : decode cX7_out 62 = .ok (.iconst 1, 1) := by decide +kernel
theorem dX7_out_63 : decode cX7_out 63 = .ok (.istore 4, 2) := by decide +kernel
theorem dX7_out_65 : decode cX7_out 65 = .ok (.iload 4, 2) := by decide +kernel
theorem dX7_out_67 : decode cX7_out 67 = .ok (.iconst 3, 1) := by decide +kernel
theorem dX7_out_68 : decode cX7_out 68 = .ok (.if_icmp .gt 30, 3) := by decide +kernel
theorem dX7_out_71 : decode cX7_out 71 = .ok (.iload_n 2, 1) := by decide +kernel
theorem dX7_out_72 : decode cX7_out 72 = .ok (.iload 4, 2) := by decide +kernel
theorem dX7_out_74 : decode cX7_out 74 = .ok (.invokestatic 126, 3) := by decide +kernel
theorem dX7_out_77 : decode cX7_out 77 = .ok (.aload_n 0, 1) := by decide +kernel
theorem dX7_out_78 : decode cX7_out 78 = .ok (.iload_n 3, 1) := by decide +kernel
theorem dX7_out_79 : decode cX7_out 79 = .ok (.bipush 10, 2) := by decide +kernel
theorem dX7_out_81 : decode cX7_out 81 = .ok (.iload_n 1, 1) := by decide +kernel
theorem dX7_out_82 : decode cX7_out 82 = .ok (.imul, 1) := by decide +kernel
theorem dX7_out_83 : decode cX7_out 83 = .ok (.iload 4, 2) := by decide +kernel
theorem dX7_out_85 : decode cX7_out 85 = .ok (.iadd, 1) := by decide +kernel
theorem dX7_out_86 : decode cX7_out 86 = .ok (.invokevirtual 106, 3) := by decide +kernel
theorem dX7_out_89 : decode cX7_out 89 = .ok (.imul, 1) := by decide +kernel
theorem dX7_out_90 : decode cX7_out 90 = .ok (.iadd, 1) := by decide +kernel
theorem dX7_out_91 : decode cX7_out 91 = .ok (.istore_n 2, 1) := by decide +kernel
theorem dX7_out_92 : decode cX7_out 92 = .ok (.iinc 4 1, 3) := by decide +kernel
theorem dX7_out_95 : decode cX7_out 95 = .ok (.goto (-30), 3) := by decide +kernel
theorem dX7_out_98 : decode cX7_out 98 = .ok (.iinc 3 1, 3) := by decide +kernel
theorem dX7_out_101 : decode cX7_out 101 = .ok (.goto (-44), 3) := by decide +kernel
theorem dX7_out_104 : decode cX7_out 104 = .ok (.iload_n 2, 1) := by decide +kernel
theorem dX7_out_105 : decode cX7_out 105 = .ok (.ireturn, 1) := by decide +kernel
theorem dJ9_min_7cf53_0 : decode cJ9_min_7cf53 0 = .ok (.iload_n 0, 1) := by decide +kernel
theorem dJ9_min_7cf53_1 : decode cJ9_min_7cf53 1 = .ok (.iload_n 1, 1) := by decide +kernel
theorem dJ9_min_7cf53_2 : decode cJ9_min_7cf53 2 = .ok (.if_icmp .gt 7, 3) := by decide +kernel
theorem dJ9_min_7cf53_5 : decode cJ9_min_7cf53 5 = .ok (.iload_n 0, 1) := by decide +kernel
theorem dJ9_min_7cf53_6 : decode cJ9_min_7cf53 6 = .ok (.goto 4, 3) := by decide +kernel
theorem dJ9_min_7cf53_9 : decode cJ9_min_7cf53 9 = .ok (.iload_n 1, 1) := by decide +kernel
theorem dJ9_min_7cf53_10 : decode cJ9_min_7cf53 10 = .ok (.ireturn, 1) := by decide +kernel
theorem dL_tell_0 : decode cL_tell 0 = .ok (.aload_n 2, 1) := by decide +kernel
theorem dL_tell_1 : decode cL_tell 1 = .ok (.iconst 0, 1) := by decide +kernel
theorem dL_tell_2 : decode cL_tell 2 = .ok (.aload_n 0, 1) := by decide +kernel
theorem dL_tell_3 : decode cL_tell 3 = .ok (.iload_n 1, 1) := by decide +kernel
theorem dL_tell_4 : decode cL_tell 4 = .ok (.invokevirtual 7, 3) := by decide +kernel
theorem dL_tell_7 : decode cL_tell 7 = .ok (.i2l, 1) := by decide +kernel
theorem dL_tell_8 : decode cL_tell 8 = .ok (.lastore, 1) := by decide +kernel
theorem dL_tell_9 : decode cL_tell 9 = .ok (.goto 9, 3) := by decide +kernel
theorem dL_tell_12 : decode cL_tell 12 = .ok (.astore_n 3, 1) := by decide +kernel
theorem dL_tell_13 : decode cL_tell 13 = .ok (.iconst 1, 1) := by decide +kernel
theorem dL_tell_14 : decode cL_tell 14 = .ok (.ireturn, 1) := by decide +kernel
theorem dL_tell_15 : decode cL_tell 15 = .ok (.astore_n 3, 1) := by decide +kernel
theorem dL_tell_16 : decode cL_tell 16 = .ok (.iconst 2, 1) := by decide +kernel
theorem dL_tell_17 : decode cL_tell 17 = .ok (.ireturn, 1) := by decide +kernel
theorem dL_tell_18 : decode cL_tell 18 = .ok (.iconst 0, 1) := by decide +kernel
theorem dL_tell_19 : decode cL_tell 19 = .ok (.ireturn, 1) := by decide +kernel
theorem dL_roll_0 : decode cL_roll 0 = .ok (.aload_n 2, 1) := by decide +kernel
theorem dL_roll_1 : decode cL_roll 1 = .ok (.iconst 0, 1) := by decide +kernel
theorem dL_roll_2 : decode cL_roll 2 = .ok (.aload_n 0, 1) := by decide +kernel
theorem dL_roll_3 : decode cL_roll 3 = .ok (.iload_n 1, 1) := by decide +kernel
theorem dL_roll_4 : decode cL_roll 4 = .ok (.invokevirtual 17, 3) := by decide +kernel
theorem dL_roll_7 : decode cL_roll 7 = .ok (.i2l, 1) := by decide +kernel
theorem dL_roll_8 : decode cL_roll 8 = .ok (.lastore, 1) := by decide +kernel
theorem dL_roll_9 : decode cL_roll 9 = .ok (.goto 9, 3) := by decide +kernel
theorem dL_roll_12 : decode cL_roll 12 = .ok (.astore_n 3, 1) := by decide +kernel
theorem dL_roll_13 : decode cL_roll 13 = .ok (.iconst 1, 1) := by decide +kernel
theorem dL_roll_14 : decode cL_roll 14 = .ok (.ireturn, 1) := by decide +kernel
theorem dL_roll_15 : decode cL_roll 15 = .ok (.astore_n 3, 1) := by decide +kernel
theorem dL_roll_16 : decode cL_roll 16 = .ok (.iconst 2, 1) := by decide +kernel
theorem dL_roll_17 : decode cL_roll 17 = .ok (.ireturn, 1) := by decide +kernel
theorem dL_roll_18 : decode cL_roll 18 = .ok (.iconst 0, 1) := by decide +kernel
theorem dL_roll_19 : decode cL_roll 19 = .ok (.ireturn, 1) := by decide +kernel
theorem dL_toggleLock_0 : decode cL_toggleLock 0 = .ok (.aload_n 2, 1) := by decide +kernel
theorem dL_toggleLock_1 : decode cL_toggleLock 1 = .ok (.iconst 0, 1) := by decide +kernel
theorem dL_toggleLock_2 : decode cL_toggleLock 2 = .ok (.aload_n 0, 1) := by decide +kernel
theorem dL_toggleLock_3 : decode cL_toggleLock 3 = .ok (.iload_n 1, 1) := by decide +kernel
theorem dL_toggleLock_4 : decode cL_toggleLock 4 = .ok (.invokevirtual 22, 3) := by decide +kernel
theorem dL_toggleLock_7 : decode cL_toggleLock 7 = .ok (.ifCond .eq 7, 3) := by decide +kernel
theorem dL_toggleLock_10 : decode cL_toggleLock 10 = .ok (.lconst 1, 1) := by decide +kernel
theorem dL_toggleLock_11 : decode cL_toggleLock 11 = .ok (.goto 4, 3) := by decide +kernel
theorem dL_toggleLock_14 : decode cL_toggleLock 14 = .ok (.lconst 0, 1) := by decide +kernel
theorem dL_toggleLock_15 : decode cL_toggleLock 15 = .ok (.lastore, 1) := by decide +kernel
theorem dL_toggleLock_16 : decode cL_toggleLock 16 = .ok (.goto 6, 3) := by decide +kernel
theorem dL_toggleLock_19 : decode cL_toggleLock 19 = .ok (.astore_n 3, 1) := by decide +kernel
theorem dL_toggleLock_20 : decode cL_toggleLock 20 = .ok (.iconst 1, 1) := by decide +kernel
theorem dL_toggleLock_21 : decode cL_toggleLock 21 = .ok (.ireturn, 1) := by decide +kernel
theorem dL_toggleLock_22 : decode cL_toggleLock 22 = .ok (.iconst 0, 1) := by decide +kernel
theorem dL_toggleLock_23 : decode cL_toggleLock 23 = .ok (.ireturn, 1) := by decide +kernel
theorem dL_buyLevel_0 : decode cL_buyLevel 0 = .ok (.aload_n 2, 1) := by decide +kernel
theorem dL_buyLevel_1 : decode cL_buyLevel 1 = .ok (.iconst 0, 1) := by decide +kernel
theorem dL_buyLevel_2 : decode cL_buyLevel 2 = .ok (.aload_n 0, 1) := by decide +kernel
theorem dL_buyLevel_3 : decode cL_buyLevel 3 = .ok (.iload_n 1, 1) := by decide +kernel
theorem dL_buyLevel_4 : decode cL_buyLevel 4 = .ok (.invokevirtual 26, 3) := by decide +kernel
theorem dL_buyLevel_7 : decode cL_buyLevel 7 = .ok (.i2l, 1) := by decide +kernel
theorem dL_buyLevel_8 : decode cL_buyLevel 8 = .ok (.lastore, 1) := by decide +kernel
theorem dL_buyLevel_9 : decode cL_buyLevel 9 = .ok (.goto 9, 3) := by decide +kernel
theorem dL_buyLevel_12 : decode cL_buyLevel 12 = .ok (.astore_n 3, 1) := by decide +kernel
theorem dL_buyLevel_13 : decode cL_buyLevel 13 = .ok (.iconst 1, 1) := by decide +kernel
theorem dL_buyLevel_14 : decode cL_buyLevel 14 = .ok (.ireturn, 1) := by decide +kernel
theorem dL_buyLevel_15 : decode cL_buyLevel 15 = .ok (.astore_n 3, 1) := by decide +kernel
theorem dL_buyLevel_16 : decode cL_buyLevel 16 = .ok (.iconst 2, 1) := by decide +kernel
theorem dL_buyLevel_17 : decode cL_buyLevel 17 = .ok (.ireturn, 1) := by decide +kernel
theorem dL_buyLevel_18 : decode cL_buyLevel 18 = .ok (.iconst 0, 1) := by decide +kernel
theorem dL_buyLevel_19 : decode cL_buyLevel 19 = .ok (.ireturn, 1) := by decide +kernel
theorem dL_buy_0 : decode cL_buy 0 = .ok (.aload_n 3, 1) := by decide +kernel
theorem dL_buy_1 : decode cL_buy 1 = .ok (.iconst 0, 1) := by decide +kernel
theorem dL_buy_2 : decode cL_buy 2 = .ok (.aload_n 0, 1) := by decide +kernel
theorem dL_buy_3 : decode cL_buy 3 = .ok (.iload_n 1, 1) := by decide +kernel
theorem dL_buy_4 : decode cL_buy 4 = .ok (.iload_n 2, 1) := by decide +kernel
theorem dL_buy_5 : decode cL_buy 5 = .ok (.invokevirtual 29, 3) := by decide +kernel
theorem dL_buy_8 : decode cL_buy 8 = .ok (.i2l, 1) := by decide +kernel
theorem dL_buy_9 : decode cL_buy 9 = .ok (.lastore, 1) := by decide +kernel
theorem dL_buy_10 : decode cL_buy 10 = .ok (.goto 15, 3) := by decide +kernel
theorem dL_buy_13 : decode cL_buy 13 = .ok (.astore 4, 2) := by decide +kernel
theorem dL_buy_15 : decode cL_buy 15 = .ok (.iconst 1, 1) := by decide +kernel
theorem dL_buy_16 : decode cL_buy 16 = .ok (.ireturn, 1) := by decide +kernel
theorem dL_buy_17 : decode cL_buy 17 = .ok (.astore 4, 2) := by decide +kernel
theorem dL_buy_19 : decode cL_buy 19 = .ok (.iconst 2, 1) := by decide +kernel
theorem dL_buy_20 : decode cL_buy 20 = .ok (.ireturn, 1) := by decide +kernel
theorem dL_buy_21 : decode cL_buy 21 = .ok (.astore 4, 2) := by decide +kernel
theorem dL_buy_23 : decode cL_buy 23 = .ok (.iconst 3, 1) := by decide +kernel
theorem dL_buy_24 : decode cL_buy 24 = .ok (.ireturn, 1) := by decide +kernel
theorem dL_buy_25 : decode cL_buy 25 = .ok (.iconst 0, 1) := by decide +kernel
theorem dL_buy_26 : decode cL_buy 26 = .ok (.ireturn, 1) := by decide +kernel
theorem dL_sell_0 : decode cL_sell 0 = .ok (.aload_n 3, 1) := by decide +kernel
theorem dL_sell_1 : decode cL_sell 1 = .ok (.iconst 0, 1) := by decide +kernel
theorem dL_sell_2 : decode cL_sell 2 = .ok (.aload_n 0, 1) := by decide +kernel
theorem dL_sell_3 : decode cL_sell 3 = .ok (.iload_n 1, 1) := by decide +kernel
theorem dL_sell_4 : decode cL_sell 4 = .ok (.iload_n 2, 1) := by decide +kernel
theorem dL_sell_5 : decode cL_sell 5 = .ok (.invokevirtual 35, 3) := by decide +kernel
theorem dL_sell_8 : decode cL_sell 8 = .ok (.i2l, 1) := by decide +kernel
theorem dL_sell_9 : decode cL_sell 9 = .ok (.lastore, 1) := by decide +kernel
theorem dL_sell_10 : decode cL_sell 10 = .ok (.goto 7, 3) := by decide +kernel
theorem dL_sell_13 : decode cL_sell 13 = .ok (.astore 4, 2) := by decide +kernel
theorem dL_sell_15 : decode cL_sell 15 = .ok (.iconst 1, 1) := by decide +kernel
theorem dL_sell_16 : decode cL_sell 16 = .ok (.ireturn, 1) := by decide +kernel
theorem dL_sell_17 : decode cL_sell 17 = .ok (.iconst 0, 1) := by decide +kernel
theorem dL_sell_18 : decode cL_sell 18 = .ok (.ireturn, 1) := by decide +kernel
theorem dL_toBoard_0 : decode cL_toBoard 0 = .ok (.aload_n 3, 1) := by decide +kernel
theorem dL_toBoard_1 : decode cL_toBoard 1 = .ok (.iconst 0, 1) := by decide +kernel
theorem dL_toBoard_2 : decode cL_toBoard 2 = .ok (.aload_n 0, 1) := by decide +kernel
theorem dL_toBoard_3 : decode cL_toBoard 3 = .ok (.iload_n 1, 1) := by decide +kernel
theorem dL_toBoard_4 : decode cL_toBoard 4 = .ok (.iload_n 2, 1) := by decide +kernel
theorem dL_toBoard_5 : decode cL_toBoard 5 = .ok (.invokevirtual 38, 3) := by decide +kernel
theorem dL_toBoard_8 : decode cL_toBoard 8 = .ok (.i2l, 1) := by decide +kernel
theorem dL_toBoard_9 : decode cL_toBoard 9 = .ok (.lastore, 1) := by decide +kernel
theorem dL_toBoard_10 : decode cL_toBoard 10 = .ok (.goto 11, 3) := by decide +kernel
theorem dL_toBoard_13 : decode cL_toBoard 13 = .ok (.astore 4, 2) := by decide +kernel
theorem dL_toBoard_15 : decode cL_toBoard 15 = .ok (.iconst 1, 1) := by decide +kernel
theorem dL_toBoard_16 : decode cL_toBoard 16 = .ok (.ireturn, 1) := by decide +kernel
theorem dL_toBoard_17 : decode cL_toBoard 17 = .ok (.astore 4, 2) := by decide +kernel
theorem dL_toBoard_19 : decode cL_toBoard 19 = .ok (.iconst 2, 1) := by decide +kernel
theorem dL_toBoard_20 : decode cL_toBoard 20 = .ok (.ireturn, 1) := by decide +kernel
theorem dL_toBoard_21 : decode cL_toBoard 21 = .ok (.iconst 0, 1) := by decide +kernel
theorem dL_toBoard_22 : decode cL_toBoard 22 = .ok (.ireturn, 1) := by decide +kernel
theorem dL_toBench_0 : decode cL_toBench 0 = .ok (.aload_n 3, 1) := by decide +kernel
theorem dL_toBench_1 : decode cL_toBench 1 = .ok (.iconst 0, 1) := by decide +kernel
theorem dL_toBench_2 : decode cL_toBench 2 = .ok (.aload_n 0, 1) := by decide +kernel
theorem dL_toBench_3 : decode cL_toBench 3 = .ok (.iload_n 1, 1) := by decide +kernel
theorem dL_toBench_4 : decode cL_toBench 4 = .ok (.iload_n 2, 1) := by decide +kernel
theorem dL_toBench_5 : decode cL_toBench 5 = .ok (.invokevirtual 41, 3) := by decide +kernel
theorem dL_toBench_8 : decode cL_toBench 8 = .ok (.i2l, 1) := by decide +kernel
theorem dL_toBench_9 : decode cL_toBench 9 = .ok (.lastore, 1) := by decide +kernel
theorem dL_toBench_10 : decode cL_toBench 10 = .ok (.goto 11, 3) := by decide +kernel
theorem dL_toBench_13 : decode cL_toBench 13 = .ok (.astore 4, 2) := by decide +kernel
theorem dL_toBench_15 : decode cL_toBench 15 = .ok (.iconst 1, 1) := by decide +kernel
theorem dL_toBench_16 : decode cL_toBench 16 = .ok (.ireturn, 1) := by decide +kernel
theorem dL_toBench_17 : decode cL_toBench 17 = .ok (.astore 4, 2) := by decide +kernel
theorem dL_toBench_19 : decode cL_toBench 19 = .ok (.iconst 2, 1) := by decide +kernel
theorem dL_toBench_20 : decode cL_toBench 20 = .ok (.ireturn, 1) := by decide +kernel
theorem dL_toBench_21 : decode cL_toBench 21 = .ok (.iconst 0, 1) := by decide +kernel
theorem dL_toBench_22 : decode cL_toBench 22 = .ok (.ireturn, 1) := by decide +kernel
theorem dL_round_0 : decode cL_round 0 = .ok (.aload_n 1, 1) := by decide +kernel
theorem dL_round_1 : decode cL_round 1 = .ok (.iconst 0, 1) := by decide +kernel
theorem dL_round_2 : decode cL_round 2 = .ok (.aload_n 0, 1) := by decide +kernel
theorem dL_round_3 : decode cL_round 3 = .ok (.invokevirtual 44, 3) := by decide +kernel
theorem dL_round_6 : decode cL_round 6 = .ok (.i2l, 1) := by decide +kernel
theorem dL_round_7 : decode cL_round 7 = .ok (.lastore, 1) := by decide +kernel
theorem dL_round_8 : decode cL_round 8 = .ok (.goto 6, 3) := by decide +kernel
theorem dL_round_11 : decode cL_round 11 = .ok (.astore_n 2, 1) := by decide +kernel
theorem dL_round_12 : decode cL_round 12 = .ok (.iconst 1, 1) := by decide +kernel
theorem dL_round_13 : decode cL_round 13 = .ok (.ireturn, 1) := by decide +kernel
theorem dL_round_14 : decode cL_round 14 = .ok (.iconst 0, 1) := by decide +kernel
theorem dL_round_15 : decode cL_round 15 = .ok (.ireturn, 1) := by decide +kernel
theorem dL_fight_0 : decode cL_fight 0 = .ok (.aload_n 3, 1) := by decide +kernel
theorem dL_fight_1 : decode cL_fight 1 = .ok (.iconst 0, 1) := by decide +kernel
theorem dL_fight_2 : decode cL_fight 2 = .ok (.aload_n 0, 1) := by decide +kernel
theorem dL_fight_3 : decode cL_fight 3 = .ok (.iload_n 1, 1) := by decide +kernel
theorem dL_fight_4 : decode cL_fight 4 = .ok (.iload_n 2, 1) := by decide +kernel
theorem dL_fight_5 : decode cL_fight 5 = .ok (.invokevirtual 48, 3) := by decide +kernel
theorem dL_fight_8 : decode cL_fight 8 = .ok (.i2l, 1) := by decide +kernel
theorem dL_fight_9 : decode cL_fight 9 = .ok (.lastore, 1) := by decide +kernel
theorem dL_fight_10 : decode cL_fight 10 = .ok (.goto 11, 3) := by decide +kernel
theorem dL_fight_13 : decode cL_fight 13 = .ok (.astore 4, 2) := by decide +kernel
theorem dL_fight_15 : decode cL_fight 15 = .ok (.iconst 1, 1) := by decide +kernel
theorem dL_fight_16 : decode cL_fight 16 = .ok (.ireturn, 1) := by decide +kernel
theorem dL_fight_17 : decode cL_fight 17 = .ok (.astore 4, 2) := by decide +kernel
theorem dL_fight_19 : decode cL_fight 19 = .ok (.iconst 2, 1) := by decide +kernel
theorem dL_fight_20 : decode cL_fight 20 = .ok (.ireturn, 1) := by decide +kernel
theorem dL_fight_21 : decode cL_fight 21 = .ok (.iconst 0, 1) := by decide +kernel
theorem dL_fight_22 : decode cL_fight 22 = .ok (.ireturn, 1) := by decide +kernel
theorem dL_fightByRecord_0 : decode cL_fightByRecord 0 = .ok (.aload_n 3, 1) := by decide +kernel
theorem dL_fightByRecord_1 : decode cL_fightByRecord 1 = .ok (.iconst 0, 1) := by decide +kernel
theorem dL_fightByRecord_2 : decode cL_fightByRecord 2 = .ok (.aload_n 0, 1) := by decide +kernel
theorem dL_fightByRecord_3 : decode cL_fightByRecord 3 = .ok (.iload_n 1, 1) := by decide +kernel
theorem dL_fightByRecord_4 : decode cL_fightByRecord 4 = .ok (.iload_n 2, 1) := by decide +kernel
theorem dL_fightByRecord_5 : decode cL_fightByRecord 5 = .ok (.invokevirtual 51, 3) := by decide +kernel
theorem dL_fightByRecord_8 : decode cL_fightByRecord 8 = .ok (.i2l, 1) := by decide +kernel
theorem dL_fightByRecord_9 : decode cL_fightByRecord 9 = .ok (.lastore, 1) := by decide +kernel
theorem dL_fightByRecord_10 : decode cL_fightByRecord 10 = .ok (.goto 11, 3) := by decide +kernel
theorem dL_fightByRecord_13 : decode cL_fightByRecord 13 = .ok (.astore 4, 2) := by decide +kernel
theorem dL_fightByRecord_15 : decode cL_fightByRecord 15 = .ok (.iconst 1, 1) := by decide +kernel
theorem dL_fightByRecord_16 : decode cL_fightByRecord 16 = .ok (.ireturn, 1) := by decide +kernel
theorem dL_fightByRecord_17 : decode cL_fightByRecord 17 = .ok (.astore 4, 2) := by decide +kernel
theorem dL_fightByRecord_19 : decode cL_fightByRecord 19 = .ok (.iconst 2, 1) := by decide +kernel
theorem dL_fightByRecord_20 : decode cL_fightByRecord 20 = .ok (.ireturn, 1) := by decide +kernel
theorem dL_fightByRecord_21 : decode cL_fightByRecord 21 = .ok (.iconst 0, 1) := by decide +kernel
theorem dL_fightByRecord_22 : decode cL_fightByRecord 22 = .ok (.ireturn, 1) := by decide +kernel
theorem dL_gold_0 : decode cL_gold 0 = .ok (.aload_n 2, 1) := by decide +kernel
theorem dL_gold_1 : decode cL_gold 1 = .ok (.iconst 0, 1) := by decide +kernel
theorem dL_gold_2 : decode cL_gold 2 = .ok (.aload_n 0, 1) := by decide +kernel
theorem dL_gold_3 : decode cL_gold 3 = .ok (.iload_n 1, 1) := by decide +kernel
theorem dL_gold_4 : decode cL_gold 4 = .ok (.invokevirtual 54, 3) := by decide +kernel
theorem dL_gold_7 : decode cL_gold 7 = .ok (.i2l, 1) := by decide +kernel
theorem dL_gold_8 : decode cL_gold 8 = .ok (.lastore, 1) := by decide +kernel
theorem dL_gold_9 : decode cL_gold 9 = .ok (.goto 6, 3) := by decide +kernel
theorem dL_gold_12 : decode cL_gold 12 = .ok (.astore_n 3, 1) := by decide +kernel
theorem dL_gold_13 : decode cL_gold 13 = .ok (.iconst 1, 1) := by decide +kernel
theorem dL_gold_14 : decode cL_gold 14 = .ok (.ireturn, 1) := by decide +kernel
theorem dL_gold_15 : decode cL_gold 15 = .ok (.iconst 0, 1) := by decide +kernel
theorem dL_gold_16 : decode cL_gold 16 = .ok (.ireturn, 1) := by decide +kernel
theorem dL_health_0 : decode cL_health 0 = .ok (.aload_n 2, 1) := by decide +kernel
theorem dL_health_1 : decode cL_health 1 = .ok (.iconst 0, 1) := by decide +kernel
theorem dL_health_2 : decode cL_health 2 = .ok (.aload_n 0, 1) := by decide +kernel
theorem dL_health_3 : decode cL_health 3 = .ok (.iload_n 1, 1) := by decide +kernel
theorem dL_health_4 : decode cL_health 4 = .ok (.invokevirtual 57, 3) := by decide +kernel
theorem dL_health_7 : decode cL_health 7 = .ok (.i2l, 1) := by decide +kernel
theorem dL_health_8 : decode cL_health 8 = .ok (.lastore, 1) := by decide +kernel
theorem dL_health_9 : decode cL_health 9 = .ok (.goto 6, 3) := by decide +kernel
theorem dL_health_12 : decode cL_health 12 = .ok (.astore_n 3, 1) := by decide +kernel
theorem dL_health_13 : decode cL_health 13 = .ok (.iconst 1, 1) := by decide +kernel
theorem dL_health_14 : decode cL_health 14 = .ok (.ireturn, 1) := by decide +kernel
theorem dL_health_15 : decode cL_health 15 = .ok (.iconst 0, 1) := by decide +kernel
theorem dL_health_16 : decode cL_health 16 = .ok (.ireturn, 1) := by decide +kernel
theorem dL_streak_0 : decode cL_streak 0 = .ok (.aload_n 2, 1) := by decide +kernel
theorem dL_streak_1 : decode cL_streak 1 = .ok (.iconst 0, 1) := by decide +kernel
theorem dL_streak_2 : decode cL_streak 2 = .ok (.aload_n 0, 1) := by decide +kernel
theorem dL_streak_3 : decode cL_streak 3 = .ok (.iload_n 1, 1) := by decide +kernel
theorem dL_streak_4 : decode cL_streak 4 = .ok (.invokevirtual 60, 3) := by decide +kernel
theorem dL_streak_7 : decode cL_streak 7 = .ok (.i2l, 1) := by decide +kernel
theorem dL_streak_8 : decode cL_streak 8 = .ok (.lastore, 1) := by decide +kernel
theorem dL_streak_9 : decode cL_streak 9 = .ok (.goto 6, 3) := by decide +kernel
theorem dL_streak_12 : decode cL_streak 12 = .ok (.astore_n 3, 1) := by decide +kernel
theorem dL_streak_13 : decode cL_streak 13 = .ok (.iconst 1, 1) := by decide +kernel
theorem dL_streak_14 : decode cL_streak 14 = .ok (.ireturn, 1) := by decide +kernel
theorem dL_streak_15 : decode cL_streak 15 = .ok (.iconst 0, 1) := by decide +kernel
theorem dL_streak_16 : decode cL_streak 16 = .ok (.ireturn, 1) := by decide +kernel
theorem dL_shopAt_0 : decode cL_shopAt 0 = .ok (.aload_n 3, 1) := by decide +kernel
theorem dL_shopAt_1 : decode cL_shopAt 1 = .ok (.iconst 0, 1) := by decide +kernel
theorem dL_shopAt_2 : decode cL_shopAt 2 = .ok (.aload_n 0, 1) := by decide +kernel
theorem dL_shopAt_3 : decode cL_shopAt 3 = .ok (.iload_n 1, 1) := by decide +kernel
theorem dL_shopAt_4 : decode cL_shopAt 4 = .ok (.iload_n 2, 1) := by decide +kernel
theorem dL_shopAt_5 : decode cL_shopAt 5 = .ok (.invokevirtual 63, 3) := by decide +kernel
theorem dL_shopAt_8 : decode cL_shopAt 8 = .ok (.i2l, 1) := by decide +kernel
theorem dL_shopAt_9 : decode cL_shopAt 9 = .ok (.lastore, 1) := by decide +kernel
theorem dL_shopAt_10 : decode cL_shopAt 10 = .ok (.goto 7, 3) := by decide +kernel
theorem dL_shopAt_13 : decode cL_shopAt 13 = .ok (.astore 4, 2) := by decide +kernel
theorem dL_shopAt_15 : decode cL_shopAt 15 = .ok (.iconst 1, 1) := by decide +kernel
theorem dL_shopAt_16 : decode cL_shopAt 16 = .ok (.ireturn, 1) := by decide +kernel
theorem dL_shopAt_17 : decode cL_shopAt 17 = .ok (.iconst 0, 1) := by decide +kernel
theorem dL_shopAt_18 : decode cL_shopAt 18 = .ok (.ireturn, 1) := by decide +kernel
theorem dL_benchAt_0 : decode cL_benchAt 0 = .ok (.aload_n 3, 1) := by decide +kernel
theorem dL_benchAt_1 : decode cL_benchAt 1 = .ok (.iconst 0, 1) := by decide +kernel
theorem dL_benchAt_2 : decode cL_benchAt 2 = .ok (.aload_n 0, 1) := by decide +kernel
theorem dL_benchAt_3 : decode cL_benchAt 3 = .ok (.iload_n 1, 1) := by decide +kernel
theorem dL_benchAt_4 : decode cL_benchAt 4 = .ok (.iload_n 2, 1) := by decide +kernel
theorem dL_benchAt_5 : decode cL_benchAt 5 = .ok (.invokevirtual 66, 3) := by decide +kernel
theorem dL_benchAt_8 : decode cL_benchAt 8 = .ok (.i2l, 1) := by decide +kernel
theorem dL_benchAt_9 : decode cL_benchAt 9 = .ok (.lastore, 1) := by decide +kernel
theorem dL_benchAt_10 : decode cL_benchAt 10 = .ok (.goto 7, 3) := by decide +kernel
theorem dL_benchAt_13 : decode cL_benchAt 13 = .ok (.astore 4, 2) := by decide +kernel
theorem dL_benchAt_15 : decode cL_benchAt 15 = .ok (.iconst 1, 1) := by decide +kernel
theorem dL_benchAt_16 : decode cL_benchAt 16 = .ok (.ireturn, 1) := by decide +kernel
theorem dL_benchAt_17 : decode cL_benchAt 17 = .ok (.iconst 0, 1) := by decide +kernel
theorem dL_benchAt_18 : decode cL_benchAt 18 = .ok (.ireturn, 1) := by decide +kernel
theorem dL_boardAt_0 : decode cL_boardAt 0 = .ok (.aload_n 3, 1) := by decide +kernel
theorem dL_boardAt_1 : decode cL_boardAt 1 = .ok (.iconst 0, 1) := by decide +kernel
theorem dL_boardAt_2 : decode cL_boardAt 2 = .ok (.aload_n 0, 1) := by decide +kernel
theorem dL_boardAt_3 : decode cL_boardAt 3 = .ok (.iload_n 1, 1) := by decide +kernel
theorem dL_boardAt_4 : decode cL_boardAt 4 = .ok (.iload_n 2, 1) := by decide +kernel
theorem dL_boardAt_5 : decode cL_boardAt 5 = .ok (.invokevirtual 69, 3) := by decide +kernel
theorem dL_boardAt_8 : decode cL_boardAt 8 = .ok (.i2l, 1) := by decide +kernel
theorem dL_boardAt_9 : decode cL_boardAt 9 = .ok (.lastore, 1) := by decide +kernel
theorem dL_boardAt_10 : decode cL_boardAt 10 = .ok (.goto 7, 3) := by decide +kernel
theorem dL_boardAt_13 : decode cL_boardAt 13 = .ok (.astore 4, 2) := by decide +kernel
theorem dL_boardAt_15 : decode cL_boardAt 15 = .ok (.iconst 1, 1) := by decide +kernel
theorem dL_boardAt_16 : decode cL_boardAt 16 = .ok (.ireturn, 1) := by decide +kernel
theorem dL_boardAt_17 : decode cL_boardAt 17 = .ok (.iconst 0, 1) := by decide +kernel
theorem dL_boardAt_18 : decode cL_boardAt 18 = .ok (.ireturn, 1) := by decide +kernel
theorem dL_blow_0 : decode cL_blow 0 = .ok (.aload_n 3, 1) := by decide +kernel
theorem dL_blow_1 : decode cL_blow 1 = .ok (.iconst 0, 1) := by decide +kernel
theorem dL_blow_2 : decode cL_blow 2 = .ok (.aload_n 0, 1) := by decide +kernel
theorem dL_blow_3 : decode cL_blow 3 = .ok (.iload_n 1, 1) := by decide +kernel
theorem dL_blow_4 : decode cL_blow 4 = .ok (.iload_n 2, 1) := by decide +kernel
theorem dL_blow_5 : decode cL_blow 5 = .ok (.invokevirtual 72, 3) := by decide +kernel
theorem dL_blow_8 : decode cL_blow 8 = .ok (.i2l, 1) := by decide +kernel
theorem dL_blow_9 : decode cL_blow 9 = .ok (.lastore, 1) := by decide +kernel
theorem dL_blow_10 : decode cL_blow 10 = .ok (.goto 7, 3) := by decide +kernel
theorem dL_blow_13 : decode cL_blow 13 = .ok (.astore 4, 2) := by decide +kernel
theorem dL_blow_15 : decode cL_blow 15 = .ok (.iconst 1, 1) := by decide +kernel
theorem dL_blow_16 : decode cL_blow 16 = .ok (.ireturn, 1) := by decide +kernel
theorem dL_blow_17 : decode cL_blow 17 = .ok (.iconst 0, 1) := by decide +kernel
theorem dL_blow_18 : decode cL_blow 18 = .ok (.ireturn, 1) := by decide +kernel
theorem dL_pool_0 : decode cL_pool 0 = .ok (.aload_n 2, 1) := by decide +kernel
theorem dL_pool_1 : decode cL_pool 1 = .ok (.iconst 0, 1) := by decide +kernel
theorem dL_pool_2 : decode cL_pool 2 = .ok (.aload_n 0, 1) := by decide +kernel
theorem dL_pool_3 : decode cL_pool 3 = .ok (.iload_n 1, 1) := by decide +kernel
theorem dL_pool_4 : decode cL_pool 4 = .ok (.invokevirtual 75, 3) := by decide +kernel
theorem dL_pool_7 : decode cL_pool 7 = .ok (.i2l, 1) := by decide +kernel
theorem dL_pool_8 : decode cL_pool 8 = .ok (.lastore, 1) := by decide +kernel
theorem dL_pool_9 : decode cL_pool 9 = .ok (.goto 6, 3) := by decide +kernel
theorem dL_pool_12 : decode cL_pool 12 = .ok (.astore_n 3, 1) := by decide +kernel
theorem dL_pool_13 : decode cL_pool 13 = .ok (.iconst 1, 1) := by decide +kernel
theorem dL_pool_14 : decode cL_pool 14 = .ok (.ireturn, 1) := by decide +kernel
theorem dL_pool_15 : decode cL_pool 15 = .ok (.iconst 0, 1) := by decide +kernel
theorem dL_pool_16 : decode cL_pool 16 = .ok (.ireturn, 1) := by decide +kernel
theorem dL_out_0 : decode cL_out 0 = .ok (.aload_n 2, 1) := by decide +kernel
theorem dL_out_1 : decode cL_out 1 = .ok (.iconst 0, 1) := by decide +kernel
theorem dL_out_2 : decode cL_out 2 = .ok (.aload_n 0, 1) := by decide +kernel
theorem dL_out_3 : decode cL_out 3 = .ok (.iload_n 1, 1) := by decide +kernel
theorem dL_out_4 : decode cL_out 4 = .ok (.invokevirtual 78, 3) := by decide +kernel
theorem dL_out_7 : decode cL_out 7 = .ok (.i2l, 1) := by decide +kernel
theorem dL_out_8 : decode cL_out 8 = .ok (.lastore, 1) := by decide +kernel
theorem dL_out_9 : decode cL_out 9 = .ok (.goto 6, 3) := by decide +kernel
theorem dL_out_12 : decode cL_out 12 = .ok (.astore_n 3, 1) := by decide +kernel
theorem dL_out_13 : decode cL_out 13 = .ok (.iconst 1, 1) := by decide +kernel
theorem dL_out_14 : decode cL_out 14 = .ok (.ireturn, 1) := by decide +kernel
theorem dL_out_15 : decode cL_out 15 = .ok (.iconst 0, 1) := by decide +kernel
theorem dL_out_16 : decode cL_out 16 = .ok (.ireturn, 1) := by decide +kernel
theorem dL_law_0 : decode cL_law 0 = .ok (.new 8, 3) := by decide +kernel
theorem dL_law_3 : decode cL_law 3 = .ok (.dup, 1) := by decide +kernel
theorem dL_law_4 : decode cL_law 4 = .ok (.invokespecial 81, 3) := by decide +kernel
theorem dL_law_7 : decode cL_law 7 = .ok (.astore_n 1, 1) := by decide +kernel
theorem dL_law_8 : decode cL_law 8 = .ok (.new 82, 3) := by decide +kernel
theorem dL_law_11 : decode cL_law 11 = .ok (.dup, 1) := by decide +kernel
theorem dL_law_12 : decode cL_law 12 = .ok (.invokespecial 84, 3) := by decide +kernel
theorem dL_law_15 : decode cL_law 15 = .ok (.astore_n 2, 1) := by decide +kernel
theorem dL_law_16 : decode cL_law 16 = .ok (.iconst 1, 1) := by decide +kernel
theorem dL_law_17 : decode cL_law 17 = .ok (.newarray .long, 2) := by decide +kernel
theorem dL_law_19 : decode cL_law 19 = .ok (.astore_n 3, 1) := by decide +kernel
theorem dL_law_20 : decode cL_law 20 = .ok (.iconst 0, 1) := by decide +kernel
theorem dL_law_21 : decode cL_law 21 = .ok (.istore 4, 2) := by decide +kernel
theorem dL_law_23 : decode cL_law 23 = .ok (.iload 4, 2) := by decide +kernel
theorem dL_law_25 : decode cL_law 25 = .ok (.aload_n 0, 1) := by decide +kernel
theorem dL_law_26 : decode cL_law 26 = .ok (.arraylength, 1) := by decide +kernel
theorem dL_law_27 : decode cL_law 27 = .ok (.iconst 3, 1) := by decide +kernel
theorem dL_law_28 : decode cL_law 28 = .ok (.isub, 1) := by decide +kernel
theorem dL_law_29 : decode cL_law 29 = .ok (.if_icmp .gt 1361, 3) := by decide +kernel
theorem dL_law_32 : decode cL_law 32 = .ok (.aload_n 0, 1) := by decide +kernel
theorem dL_law_33 : decode cL_law 33 = .ok (.iload 4, 2) := by decide +kernel
theorem dL_law_35 : decode cL_law 35 = .ok (.iaload, 1) := by decide +kernel
theorem dL_law_36 : decode cL_law 36 = .ok (.bipush 31, 2) := by decide +kernel
theorem dL_law_38 : decode cL_law 38 = .ok (.iand, 1) := by decide +kernel
theorem dL_law_39 : decode cL_law 39 = .ok (.tableswitch 1345 0 20 #[97, 153, 209, 272, 328, 396, 464, 532, 600, 644, 657, 725, 793, 849, 905, 961, 1029, 1097, 1165, 1233, 1289], 97) := by decide +kernel
theorem dL_law_136 : decode cL_law 136 = .ok (.aload_n 1, 1) := by decide +kernel
theorem dL_law_137 : decode cL_law 137 = .ok (.aload_n 0, 1) := by decide +kernel
theorem dL_law_138 : decode cL_law 138 = .ok (.iload 4, 2) := by decide +kernel
theorem dL_law_140 : decode cL_law 140 = .ok (.iconst 1, 1) := by decide +kernel
theorem dL_law_141 : decode cL_law 141 = .ok (.iadd, 1) := by decide +kernel
theorem dL_law_142 : decode cL_law 142 = .ok (.iaload, 1) := by decide +kernel
theorem dL_law_143 : decode cL_law 143 = .ok (.aload_n 3, 1) := by decide +kernel
theorem dL_law_144 : decode cL_law 144 = .ok (.invokestatic 85, 3) := by decide +kernel
theorem dL_law_147 : decode cL_law 147 = .ok (.istore 5, 2) := by decide +kernel
theorem dL_law_149 : decode cL_law 149 = .ok (.aload_n 2, 1) := by decide +kernel
theorem dL_law_150 : decode cL_law 150 = .ok (.aload_n 0, 1) := by decide +kernel
theorem dL_law_151 : decode cL_law 151 = .ok (.iload 4, 2) := by decide +kernel
theorem dL_law_153 : decode cL_law 153 = .ok (.iconst 1, 1) := by decide +kernel
theorem dL_law_154 : decode cL_law 154 = .ok (.iadd, 1) := by decide +kernel
theorem dL_law_155 : decode cL_law 155 = .ok (.iaload, 1) := by decide +kernel
theorem dL_law_156 : decode cL_law 156 = .ok (.invokevirtual 90, 3) := by decide +kernel
theorem dL_law_159 : decode cL_law 159 = .ok (.istore 6, 2) := by decide +kernel
theorem dL_law_161 : decode cL_law 161 = .ok (.aload_n 2, 1) := by decide +kernel
theorem dL_law_162 : decode cL_law 162 = .ok (.invokevirtual 91, 3) := by decide +kernel
theorem dL_law_165 : decode cL_law 165 = .ok (.iload 5, 2) := by decide +kernel
theorem dL_law_167 : decode cL_law 167 = .ok (.if_icmp .eq 5, 3) := by decide +kernel
theorem dL_law_170 : decode cL_law 170 = .ok (.iconst 0, 1) := by decide +kernel
theorem dL_law_171 : decode cL_law 171 = .ok (.ireturn, 1) := by decide +kernel
theorem dL_law_172 : decode cL_law 172 = .ok (.iload 5, 2) := by decide +kernel
theorem dL_law_174 : decode cL_law 174 = .ok (.ifCond .ne 15, 3) := by decide +kernel
theorem dL_law_177 : decode cL_law 177 = .ok (.aload_n 3, 1) := by decide +kernel
theorem dL_law_178 : decode cL_law 178 = .ok (.iconst 0, 1) := by decide +kernel
theorem dL_law_179 : decode cL_law 179 = .ok (.laload, 1) := by decide +kernel
theorem dL_law_180 : decode cL_law 180 = .ok (.iload 6, 2) := by decide +kernel
theorem dL_law_182 : decode cL_law 182 = .ok (.i2l, 1) := by decide +kernel
theorem dL_law_183 : decode cL_law 183 = .ok (.lcmp, 1) := by decide +kernel
theorem dL_law_184 : decode cL_law 184 = .ok (.ifCond .eq 5, 3) := by decide +kernel
theorem dL_law_187 : decode cL_law 187 = .ok (.iconst 0, 1) := by decide +kernel
theorem dL_law_188 : decode cL_law 188 = .ok (.ireturn, 1) := by decide +kernel
theorem dL_law_189 : decode cL_law 189 = .ok (.goto 1195, 3) := by decide +kernel
theorem dL_law_192 : decode cL_law 192 = .ok (.aload_n 1, 1) := by decide +kernel
theorem dL_law_193 : decode cL_law 193 = .ok (.aload_n 0, 1) := by decide +kernel
theorem dL_law_194 : decode cL_law 194 = .ok (.iload 4, 2) := by decide +kernel
theorem dL_law_196 : decode cL_law 196 = .ok (.iconst 1, 1) := by decide +kernel
theorem dL_law_197 : decode cL_law 197 = .ok (.iadd, 1) := by decide +kernel
theorem dL_law_198 : decode cL_law 198 = .ok (.iaload, 1) := by decide +kernel
theorem dL_law_199 : decode cL_law 199 = .ok (.aload_n 3, 1) := by decide +kernel
theorem dL_law_200 : decode cL_law 200 = .ok (.invokestatic 94, 3) := by decide +kernel
theorem dL_law_203 : decode cL_law 203 = .ok (.istore 5, 2) := by decide +kernel
theorem dL_law_205 : decode cL_law 205 = .ok (.aload_n 2, 1) := by decide +kernel
theorem dL_law_206 : decode cL_law 206 = .ok (.aload_n 0, 1) := by decide +kernel
theorem dL_law_207 : decode cL_law 207 = .ok (.iload 4, 2) := by decide +kernel
theorem dL_law_209 : decode cL_law 209 = .ok (.iconst 1, 1) := by decide +kernel
theorem dL_law_210 : decode cL_law 210 = .ok (.iadd, 1) := by decide +kernel
theorem dL_law_211 : decode cL_law 211 = .ok (.iaload, 1) := by decide +kernel
theorem dL_law_212 : decode cL_law 212 = .ok (.invokevirtual 96, 3) := by decide +kernel
theorem dL_law_215 : decode cL_law 215 = .ok (.istore 6, 2) := by decide +kernel
theorem dL_law_217 : decode cL_law 217 = .ok (.aload_n 2, 1) := by decide +kernel
theorem dL_law_218 : decode cL_law 218 = .ok (.invokevirtual 91, 3) := by decide +kernel
theorem dL_law_221 : decode cL_law 221 = .ok (.iload 5, 2) := by decide +kernel
theorem dL_law_223 : decode cL_law 223 = .ok (.if_icmp .eq 5, 3) := by decide +kernel
theorem dL_law_226 : decode cL_law 226 = .ok (.iconst 0, 1) := by decide +kernel
theorem dL_law_227 : decode cL_law 227 = .ok (.ireturn, 1) := by decide +kernel
theorem dL_law_228 : decode cL_law 228 = .ok (.iload 5, 2) := by decide +kernel
theorem dL_law_230 : decode cL_law 230 = .ok (.ifCond .ne 15, 3) := by decide +kernel
theorem dL_law_233 : decode cL_law 233 = .ok (.aload_n 3, 1) := by decide +kernel
theorem dL_law_234 : decode cL_law 234 = .ok (.iconst 0, 1) := by decide +kernel
theorem dL_law_235 : decode cL_law 235 = .ok (.laload, 1) := by decide +kernel
theorem dL_law_236 : decode cL_law 236 = .ok (.iload 6, 2) := by decide +kernel
theorem dL_law_238 : decode cL_law 238 = .ok (.i2l, 1) := by decide +kernel
theorem dL_law_239 : decode cL_law 239 = .ok (.lcmp, 1) := by decide +kernel
theorem dL_law_240 : decode cL_law 240 = .ok (.ifCond .eq 5, 3) := by decide +kernel
theorem dL_law_243 : decode cL_law 243 = .ok (.iconst 0, 1) := by decide +kernel
theorem dL_law_244 : decode cL_law 244 = .ok (.ireturn, 1) := by decide +kernel
theorem dL_law_245 : decode cL_law 245 = .ok (.goto 1139, 3) := by decide +kernel
theorem dL_law_248 : decode cL_law 248 = .ok (.aload_n 1, 1) := by decide +kernel
theorem dL_law_249 : decode cL_law 249 = .ok (.aload_n 0, 1) := by decide +kernel
theorem dL_law_250 : decode cL_law 250 = .ok (.iload 4, 2) := by decide +kernel
theorem dL_law_252 : decode cL_law 252 = .ok (.iconst 1, 1) := by decide +kernel
theorem dL_law_253 : decode cL_law 253 = .ok (.iadd, 1) := by decide +kernel
theorem dL_law_254 : decode cL_law 254 = .ok (.iaload, 1) := by decide +kernel
theorem dL_law_255 : decode cL_law 255 = .ok (.aload_n 3, 1) := by decide +kernel
theorem dL_law_256 : decode cL_law 256 = .ok (.invokestatic 97, 3) := by decide +kernel
theorem dL_law_259 : decode cL_law 259 = .ok (.istore 5, 2) := by decide +kernel
theorem dL_law_261 : decode cL_law 261 = .ok (.aload_n 2, 1) := by decide +kernel
theorem dL_law_262 : decode cL_law 262 = .ok (.aload_n 0, 1) := by decide +kernel
theorem dL_law_263 : decode cL_law 263 = .ok (.iload 4, 2) := by decide +kernel
theorem dL_law_265 : decode cL_law 265 = .ok (.iconst 1, 1) := by decide +kernel
theorem dL_law_266 : decode cL_law 266 = .ok (.iadd, 1) := by decide +kernel
theorem dL_law_267 : decode cL_law 267 = .ok (.iaload, 1) := by decide +kernel
theorem dL_law_268 : decode cL_law 268 = .ok (.invokevirtual 99, 3) := by decide +kernel
theorem dL_law_271 : decode cL_law 271 = .ok (.istore 6, 2) := by decide +kernel
theorem dL_law_273 : decode cL_law 273 = .ok (.aload_n 2, 1) := by decide +kernel
theorem dL_law_274 : decode cL_law 274 = .ok (.invokevirtual 91, 3) := by decide +kernel
theorem dL_law_277 : decode cL_law 277 = .ok (.iload 5, 2) := by decide +kernel
theorem dL_law_279 : decode cL_law 279 = .ok (.if_icmp .eq 5, 3) := by decide +kernel
theorem dL_law_282 : decode cL_law 282 = .ok (.iconst 0, 1) := by decide +kernel
theorem dL_law_283 : decode cL_law 283 = .ok (.ireturn, 1) := by decide +kernel
theorem dL_law_284 : decode cL_law 284 = .ok (.iload 5, 2) := by decide +kernel
theorem dL_law_286 : decode cL_law 286 = .ok (.ifCond .ne 22, 3) := by decide +kernel
theorem dL_law_289 : decode cL_law 289 = .ok (.aload_n 3, 1) := by decide +kernel
theorem dL_law_290 : decode cL_law 290 = .ok (.iconst 0, 1) := by decide +kernel
theorem dL_law_291 : decode cL_law 291 = .ok (.laload, 1) := by decide +kernel
theorem dL_law_292 : decode cL_law 292 = .ok (.iload 6, 2) := by decide +kernel
theorem dL_law_294 : decode cL_law 294 = .ok (.ifCond .eq 7, 3) := by decide +kernel
theorem dL_law_297 : decode cL_law 297 = .ok (.lconst 1, 1) := by decide +kernel
theorem dL_law_298 : decode cL_law 298 = .ok (.goto 4, 3) := by decide +kernel
theorem dL_law_301 : decode cL_law 301 = .ok (.lconst 0, 1) := by decide +kernel
theorem dL_law_302 : decode cL_law 302 = .ok (.lcmp, 1) := by decide +kernel
theorem dL_law_303 : decode cL_law 303 = .ok (.ifCond .eq 5, 3) := by decide +kernel
theorem dL_law_306 : decode cL_law 306 = .ok (.iconst 0, 1) := by decide +kernel
theorem dL_law_307 : decode cL_law 307 = .ok (.ireturn, 1) := by decide +kernel
theorem dL_law_308 : decode cL_law 308 = .ok (.goto 1076, 3) := by decide +kernel
theorem dL_law_311 : decode cL_law 311 = .ok (.aload_n 1, 1) := by decide +kernel
theorem dL_law_312 : decode cL_law 312 = .ok (.aload_n 0, 1) := by decide +kernel
theorem dL_law_313 : decode cL_law 313 = .ok (.iload 4, 2) := by decide +kernel
theorem dL_law_315 : decode cL_law 315 = .ok (.iconst 1, 1) := by decide +kernel
theorem dL_law_316 : decode cL_law 316 = .ok (.iadd, 1) := by decide +kernel
theorem dL_law_317 : decode cL_law 317 = .ok (.iaload, 1) := by decide +kernel
theorem dL_law_318 : decode cL_law 318 = .ok (.aload_n 3, 1) := by decide +kernel
theorem dL_law_319 : decode cL_law 319 = .ok (.invokestatic 100, 3) := by decide +kernel
theorem dL_law_322 : decode cL_law 322 = .ok (.istore 5, 2) := by decide +kernel
theorem dL_law_324 : decode cL_law 324 = .ok (.aload_n 2, 1) := by decide +kernel
theorem dL_law_325 : decode cL_law 325 = .ok (.aload_n 0, 1) := by decide +kernel
theorem dL_law_326 : decode cL_law 326 = .ok (.iload 4, 2) := by decide +kernel
theorem dL_law_328 : decode cL_law 328 = .ok (.iconst 1, 1) := by decide +kernel
theorem dL_law_329 : decode cL_law 329 = .ok (.iadd, 1) := by decide +kernel
theorem dL_law_330 : decode cL_law 330 = .ok (.iaload, 1) := by decide +kernel
theorem dL_law_331 : decode cL_law 331 = .ok (.invokevirtual 102, 3) := by decide +kernel
theorem dL_law_334 : decode cL_law 334 = .ok (.istore 6, 2) := by decide +kernel
theorem dL_law_336 : decode cL_law 336 = .ok (.aload_n 2, 1) := by decide +kernel
theorem dL_law_337 : decode cL_law 337 = .ok (.invokevirtual 91, 3) := by decide +kernel
theorem dL_law_340 : decode cL_law 340 = .ok (.iload 5, 2) := by decide +kernel
theorem dL_law_342 : decode cL_law 342 = .ok (.if_icmp .eq 5, 3) := by decide +kernel
theorem dL_law_345 : decode cL_law 345 = .ok (.iconst 0, 1) := by decide +kernel
theorem dL_law_346 : decode cL_law 346 = .ok (.ireturn, 1) := by decide +kernel
theorem dL_law_347 : decode cL_law 347 = .ok (.iload 5, 2) := by decide +kernel
theorem dL_law_349 : decode cL_law 349 = .ok (.ifCond .ne 15, 3) := by decide +kernel
theorem dL_law_352 : decode cL_law 352 = .ok (.aload_n 3, 1) := by decide +kernel
theorem dL_law_353 : decode cL_law 353 = .ok (.iconst 0, 1) := by decide +kernel
theorem dL_law_354 : decode cL_law 354 = .ok (.laload, 1) := by decide +kernel
theorem dL_law_355 : decode cL_law 355 = .ok (.iload 6, 2) := by decide +kernel
theorem dL_law_357 : decode cL_law 357 = .ok (.i2l, 1) := by decide +kernel
theorem dL_law_358 : decode cL_law 358 = .ok (.lcmp, 1) := by decide +kernel
theorem dL_law_359 : decode cL_law 359 = .ok (.ifCond .eq 5, 3) := by decide +kernel
theorem dL_law_362 : decode cL_law 362 = .ok (.iconst 0, 1) := by decide +kernel
theorem dL_law_363 : decode cL_law 363 = .ok (.ireturn, 1) := by decide +kernel
theorem dL_law_364 : decode cL_law 364 = .ok (.goto 1020, 3) := by decide +kernel
theorem dL_law_367 : decode cL_law 367 = .ok (.aload_n 1, 1) := by decide +kernel
theorem dL_law_368 : decode cL_law 368 = .ok (.aload_n 0, 1) := by decide +kernel
theorem dL_law_369 : decode cL_law 369 = .ok (.iload 4, 2) := by decide +kernel
theorem dL_law_371 : decode cL_law 371 = .ok (.iconst 1, 1) := by decide +kernel
theorem dL_law_372 : decode cL_law 372 = .ok (.iadd, 1) := by decide +kernel
theorem dL_law_373 : decode cL_law 373 = .ok (.iaload, 1) := by decide +kernel
theorem dL_law_374 : decode cL_law 374 = .ok (.aload_n 0, 1) := by decide +kernel
theorem dL_law_375 : decode cL_law 375 = .ok (.iload 4, 2) := by decide +kernel
theorem dL_law_377 : decode cL_law 377 = .ok (.iconst 2, 1) := by decide +kernel
theorem dL_law_378 : decode cL_law 378 = .ok (.iadd, 1) := by decide +kernel
theorem dL_law_379 : decode cL_law 379 = .ok (.iaload, 1) := by decide +kernel
theorem dL_law_380 : decode cL_law 380 = .ok (.aload_n 3, 1) := by decide +kernel
theorem dL_law_381 : decode cL_law 381 = .ok (.invokestatic 103, 3) := by decide +kernel
theorem dL_law_384 : decode cL_law 384 = .ok (.istore 5, 2) := by decide +kernel
theorem dL_law_386 : decode cL_law 386 = .ok (.aload_n 2, 1) := by decide +kernel
theorem dL_law_387 : decode cL_law 387 = .ok (.aload_n 0, 1) := by decide +kernel
theorem dL_law_388 : decode cL_law 388 = .ok (.iload 4, 2) := by decide +kernel
theorem dL_law_390 : decode cL_law 390 = .ok (.iconst 1, 1) := by decide +kernel
theorem dL_law_391 : decode cL_law 391 = .ok (.iadd, 1) := by decide +kernel
theorem dL_law_392 : decode cL_law 392 = .ok (.iaload, 1) := by decide +kernel
theorem dL_law_393 : decode cL_law 393 = .ok (.aload_n 0, 1) := by decide +kernel
theorem dL_law_394 : decode cL_law 394 = .ok (.iload 4, 2) := by decide +kernel
theorem dL_law_396 : decode cL_law 396 = .ok (.iconst 2, 1) := by decide +kernel
theorem dL_law_397 : decode cL_law 397 = .ok (.iadd, 1) := by decide +kernel
theorem dL_law_398 : decode cL_law 398 = .ok (.iaload, 1) := by decide +kernel
theorem dL_law_399 : decode cL_law 399 = .ok (.invokevirtual 106, 3) := by decide +kernel
theorem dL_law_402 : decode cL_law 402 = .ok (.istore 6, 2) := by decide +kernel
theorem dL_law_404 : decode cL_law 404 = .ok (.aload_n 2, 1) := by decide +kernel
theorem dL_law_405 : decode cL_law 405 = .ok (.invokevirtual 91, 3) := by decide +kernel
theorem dL_law_408 : decode cL_law 408 = .ok (.iload 5, 2) := by decide +kernel
theorem dL_law_410 : decode cL_law 410 = .ok (.if_icmp .eq 5, 3) := by decide +kernel
theorem dL_law_413 : decode cL_law 413 = .ok (.iconst 0, 1) := by decide +kernel
theorem dL_law_414 : decode cL_law 414 = .ok (.ireturn, 1) := by decide +kernel
theorem dL_law_415 : decode cL_law 415 = .ok (.iload 5, 2) := by decide +kernel
theorem dL_law_417 : decode cL_law 417 = .ok (.ifCond .ne 15, 3) := by decide +kernel
theorem dL_law_420 : decode cL_law 420 = .ok (.aload_n 3, 1) := by decide +kernel
theorem dL_law_421 : decode cL_law 421 = .ok (.iconst 0, 1) := by decide +kernel
theorem dL_law_422 : decode cL_law 422 = .ok (.laload, 1) := by decide +kernel
theorem dL_law_423 : decode cL_law 423 = .ok (.iload 6, 2) := by decide +kernel
theorem dL_law_425 : decode cL_law 425 = .ok (.i2l, 1) := by decide +kernel
theorem dL_law_426 : decode cL_law 426 = .ok (.lcmp, 1) := by decide +kernel
theorem dL_law_427 : decode cL_law 427 = .ok (.ifCond .eq 5, 3) := by decide +kernel
theorem dL_law_430 : decode cL_law 430 = .ok (.iconst 0, 1) := by decide +kernel
theorem dL_law_431 : decode cL_law 431 = .ok (.ireturn, 1) := by decide +kernel
theorem dL_law_432 : decode cL_law 432 = .ok (.goto 952, 3) := by decide +kernel
theorem dL_law_435 : decode cL_law 435 = .ok (.aload_n 1, 1) := by decide +kernel
theorem dL_law_436 : decode cL_law 436 = .ok (.aload_n 0, 1) := by decide +kernel
theorem dL_law_437 : decode cL_law 437 = .ok (.iload 4, 2) := by decide +kernel
theorem dL_law_439 : decode cL_law 439 = .ok (.iconst 1, 1) := by decide +kernel
theorem dL_law_440 : decode cL_law 440 = .ok (.iadd, 1) := by decide +kernel
theorem dL_law_441 : decode cL_law 441 = .ok (.iaload, 1) := by decide +kernel
theorem dL_law_442 : decode cL_law 442 = .ok (.aload_n 0, 1) := by decide +kernel
theorem dL_law_443 : decode cL_law 443 = .ok (.iload 4, 2) := by decide +kernel
theorem dL_law_445 : decode cL_law 445 = .ok (.iconst 2, 1) := by decide +kernel
theorem dL_law_446 : decode cL_law 446 = .ok (.iadd, 1) := by decide +kernel
theorem dL_law_447 : decode cL_law 447 = .ok (.iaload, 1) := by decide +kernel
theorem dL_law_448 : decode cL_law 448 = .ok (.aload_n 3, 1) := by decide +kernel
theorem dL_law_449 : decode cL_law 449 = .ok (.invokestatic 107, 3) := by decide +kernel
theorem dL_law_452 : decode cL_law 452 = .ok (.istore 5, 2) := by decide +kernel
theorem dL_law_454 : decode cL_law 454 = .ok (.aload_n 2, 1) := by decide +kernel
theorem dL_law_455 : decode cL_law 455 = .ok (.aload_n 0, 1) := by decide +kernel
theorem dL_law_456 : decode cL_law 456 = .ok (.iload 4, 2) := by decide +kernel
theorem dL_law_458 : decode cL_law 458 = .ok (.iconst 1, 1) := by decide +kernel
theorem dL_law_459 : decode cL_law 459 = .ok (.iadd, 1) := by decide +kernel
theorem dL_law_460 : decode cL_law 460 = .ok (.iaload, 1) := by decide +kernel
theorem dL_law_461 : decode cL_law 461 = .ok (.aload_n 0, 1) := by decide +kernel
theorem dL_law_462 : decode cL_law 462 = .ok (.iload 4, 2) := by decide +kernel
theorem dL_law_464 : decode cL_law 464 = .ok (.iconst 2, 1) := by decide +kernel
theorem dL_law_465 : decode cL_law 465 = .ok (.iadd, 1) := by decide +kernel
theorem dL_law_466 : decode cL_law 466 = .ok (.iaload, 1) := by decide +kernel
theorem dL_law_467 : decode cL_law 467 = .ok (.invokevirtual 109, 3) := by decide +kernel
theorem dL_law_470 : decode cL_law 470 = .ok (.istore 6, 2) := by decide +kernel
theorem dL_law_472 : decode cL_law 472 = .ok (.aload_n 2, 1) := by decide +kernel
theorem dL_law_473 : decode cL_law 473 = .ok (.invokevirtual 91, 3) := by decide +kernel
theorem dL_law_476 : decode cL_law 476 = .ok (.iload 5, 2) := by decide +kernel
theorem dL_law_478 : decode cL_law 478 = .ok (.if_icmp .eq 5, 3) := by decide +kernel
theorem dL_law_481 : decode cL_law 481 = .ok (.iconst 0, 1) := by decide +kernel
theorem dL_law_482 : decode cL_law 482 = .ok (.ireturn, 1) := by decide +kernel
theorem dL_law_483 : decode cL_law 483 = .ok (.iload 5, 2) := by decide +kernel
theorem dL_law_485 : decode cL_law 485 = .ok (.ifCond .ne 15, 3) := by decide +kernel
theorem dL_law_488 : decode cL_law 488 = .ok (.aload_n 3, 1) := by decide +kernel
theorem dL_law_489 : decode cL_law 489 = .ok (.iconst 0, 1) := by decide +kernel
theorem dL_law_490 : decode cL_law 490 = .ok (.laload, 1) := by decide +kernel
theorem dL_law_491 : decode cL_law 491 = .ok (.iload 6, 2) := by decide +kernel
theorem dL_law_493 : decode cL_law 493 = .ok (.i2l, 1) := by decide +kernel
theorem dL_law_494 : decode cL_law 494 = .ok (.lcmp, 1) := by decide +kernel
theorem dL_law_495 : decode cL_law 495 = .ok (.ifCond .eq 5, 3) := by decide +kernel
theorem dL_law_498 : decode cL_law 498 = .ok (.iconst 0, 1) := by decide +kernel
theorem dL_law_499 : decode cL_law 499 = .ok (.ireturn, 1) := by decide +kernel
theorem dL_law_500 : decode cL_law 500 = .ok (.goto 884, 3) := by decide +kernel
theorem dL_law_503 : decode cL_law 503 = .ok (.aload_n 1, 1) := by decide +kernel
theorem dL_law_504 : decode cL_law 504 = .ok (.aload_n 0, 1) := by decide +kernel
theorem dL_law_505 : decode cL_law 505 = .ok (.iload 4, 2) := by decide +kernel
theorem dL_law_507 : decode cL_law 507 = .ok (.iconst 1, 1) := by decide +kernel
theorem dL_law_508 : decode cL_law 508 = .ok (.iadd, 1) := by decide +kernel
theorem dL_law_509 : decode cL_law 509 = .ok (.iaload, 1) := by decide +kernel
theorem dL_law_510 : decode cL_law 510 = .ok (.aload_n 0, 1) := by decide +kernel
theorem dL_law_511 : decode cL_law 511 = .ok (.iload 4, 2) := by decide +kernel
theorem dL_law_513 : decode cL_law 513 = .ok (.iconst 2, 1) := by decide +kernel
theorem dL_law_514 : decode cL_law 514 = .ok (.iadd, 1) := by decide +kernel
theorem dL_law_515 : decode cL_law 515 = .ok (.iaload, 1) := by decide +kernel
theorem dL_law_516 : decode cL_law 516 = .ok (.aload_n 3, 1) := by decide +kernel
theorem dL_law_517 : decode cL_law 517 = .ok (.invokestatic 110, 3) := by decide +kernel
theorem dL_law_520 : decode cL_law 520 = .ok (.istore 5, 2) := by decide +kernel
theorem dL_law_522 : decode cL_law 522 = .ok (.aload_n 2, 1) := by decide +kernel
theorem dL_law_523 : decode cL_law 523 = .ok (.aload_n 0, 1) := by decide +kernel
theorem dL_law_524 : decode cL_law 524 = .ok (.iload 4, 2) := by decide +kernel
theorem dL_law_526 : decode cL_law 526 = .ok (.iconst 1, 1) := by decide +kernel
theorem dL_law_527 : decode cL_law 527 = .ok (.iadd, 1) := by decide +kernel
theorem dL_law_528 : decode cL_law 528 = .ok (.iaload, 1) := by decide +kernel
theorem dL_law_529 : decode cL_law 529 = .ok (.aload_n 0, 1) := by decide +kernel
theorem dL_law_530 : decode cL_law 530 = .ok (.iload 4, 2) := by decide +kernel
theorem dL_law_532 : decode cL_law 532 = .ok (.iconst 2, 1) := by decide +kernel
theorem dL_law_533 : decode cL_law 533 = .ok (.iadd, 1) := by decide +kernel
theorem dL_law_534 : decode cL_law 534 = .ok (.iaload, 1) := by decide +kernel
theorem dL_law_535 : decode cL_law 535 = .ok (.invokevirtual 112, 3) := by decide +kernel
theorem dL_law_538 : decode cL_law 538 = .ok (.istore 6, 2) := by decide +kernel
theorem dL_law_540 : decode cL_law 540 = .ok (.aload_n 2, 1) := by decide +kernel
theorem dL_law_541 : decode cL_law 541 = .ok (.invokevirtual 91, 3) := by decide +kernel
theorem dL_law_544 : decode cL_law 544 = .ok (.iload 5, 2) := by decide +kernel
theorem dL_law_546 : decode cL_law 546 = .ok (.if_icmp .eq 5, 3) := by decide +kernel
theorem dL_law_549 : decode cL_law 549 = .ok (.iconst 0, 1) := by decide +kernel
theorem dL_law_550 : decode cL_law 550 = .ok (.ireturn, 1) := by decide +kernel
theorem dL_law_551 : decode cL_law 551 = .ok (.iload 5, 2) := by decide +kernel
theorem dL_law_553 : decode cL_law 553 = .ok (.ifCond .ne 15, 3) := by decide +kernel
theorem dL_law_556 : decode cL_law 556 = .ok (.aload_n 3, 1) := by decide +kernel
theorem dL_law_557 : decode cL_law 557 = .ok (.iconst 0, 1) := by decide +kernel
theorem dL_law_558 : decode cL_law 558 = .ok (.laload, 1) := by decide +kernel
theorem dL_law_559 : decode cL_law 559 = .ok (.iload 6, 2) := by decide +kernel
theorem dL_law_561 : decode cL_law 561 = .ok (.i2l, 1) := by decide +kernel
theorem dL_law_562 : decode cL_law 562 = .ok (.lcmp, 1) := by decide +kernel
theorem dL_law_563 : decode cL_law 563 = .ok (.ifCond .eq 5, 3) := by decide +kernel
theorem dL_law_566 : decode cL_law 566 = .ok (.iconst 0, 1) := by decide +kernel
theorem dL_law_567 : decode cL_law 567 = .ok (.ireturn, 1) := by decide +kernel
theorem dL_law_568 : decode cL_law 568 = .ok (.goto 816, 3) := by decide +kernel
theorem dL_law_571 : decode cL_law 571 = .ok (.aload_n 1, 1) := by decide +kernel
theorem dL_law_572 : decode cL_law 572 = .ok (.aload_n 0, 1) := by decide +kernel
theorem dL_law_573 : decode cL_law 573 = .ok (.iload 4, 2) := by decide +kernel
theorem dL_law_575 : decode cL_law 575 = .ok (.iconst 1, 1) := by decide +kernel
theorem dL_law_576 : decode cL_law 576 = .ok (.iadd, 1) := by decide +kernel
theorem dL_law_577 : decode cL_law 577 = .ok (.iaload, 1) := by decide +kernel
theorem dL_law_578 : decode cL_law 578 = .ok (.aload_n 0, 1) := by decide +kernel
theorem dL_law_579 : decode cL_law 579 = .ok (.iload 4, 2) := by decide +kernel
theorem dL_law_581 : decode cL_law 581 = .ok (.iconst 2, 1) := by decide +kernel
theorem dL_law_582 : decode cL_law 582 = .ok (.iadd, 1) := by decide +kernel
theorem dL_law_583 : decode cL_law 583 = .ok (.iaload, 1) := by decide +kernel
theorem dL_law_584 : decode cL_law 584 = .ok (.aload_n 3, 1) := by decide +kernel
theorem dL_law_585 : decode cL_law 585 = .ok (.invokestatic 113, 3) := by decide +kernel
theorem dL_law_588 : decode cL_law 588 = .ok (.istore 5, 2) := by decide +kernel
theorem dL_law_590 : decode cL_law 590 = .ok (.aload_n 2, 1) := by decide +kernel
theorem dL_law_591 : decode cL_law 591 = .ok (.aload_n 0, 1) := by decide +kernel
theorem dL_law_592 : decode cL_law 592 = .ok (.iload 4, 2) := by decide +kernel
theorem dL_law_594 : decode cL_law 594 = .ok (.iconst 1, 1) := by decide +kernel
theorem dL_law_595 : decode cL_law 595 = .ok (.iadd, 1) := by decide +kernel
theorem dL_law_596 : decode cL_law 596 = .ok (.iaload, 1) := by decide +kernel
theorem dL_law_597 : decode cL_law 597 = .ok (.aload_n 0, 1) := by decide +kernel
theorem dL_law_598 : decode cL_law 598 = .ok (.iload 4, 2) := by decide +kernel
theorem dL_law_600 : decode cL_law 600 = .ok (.iconst 2, 1) := by decide +kernel
theorem dL_law_601 : decode cL_law 601 = .ok (.iadd, 1) := by decide +kernel
theorem dL_law_602 : decode cL_law 602 = .ok (.iaload, 1) := by decide +kernel
theorem dL_law_603 : decode cL_law 603 = .ok (.invokevirtual 115, 3) := by decide +kernel
theorem dL_law_606 : decode cL_law 606 = .ok (.istore 6, 2) := by decide +kernel
theorem dL_law_608 : decode cL_law 608 = .ok (.aload_n 2, 1) := by decide +kernel
theorem dL_law_609 : decode cL_law 609 = .ok (.invokevirtual 91, 3) := by decide +kernel
theorem dL_law_612 : decode cL_law 612 = .ok (.iload 5, 2) := by decide +kernel
theorem dL_law_614 : decode cL_law 614 = .ok (.if_icmp .eq 5, 3) := by decide +kernel
theorem dL_law_617 : decode cL_law 617 = .ok (.iconst 0, 1) := by decide +kernel
theorem dL_law_618 : decode cL_law 618 = .ok (.ireturn, 1) := by decide +kernel
theorem dL_law_619 : decode cL_law 619 = .ok (.iload 5, 2) := by decide +kernel
theorem dL_law_621 : decode cL_law 621 = .ok (.ifCond .ne 15, 3) := by decide +kernel
theorem dL_law_624 : decode cL_law 624 = .ok (.aload_n 3, 1) := by decide +kernel
theorem dL_law_625 : decode cL_law 625 = .ok (.iconst 0, 1) := by decide +kernel
theorem dL_law_626 : decode cL_law 626 = .ok (.laload, 1) := by decide +kernel
theorem dL_law_627 : decode cL_law 627 = .ok (.iload 6, 2) := by decide +kernel
theorem dL_law_629 : decode cL_law 629 = .ok (.i2l, 1) := by decide +kernel
theorem dL_law_630 : decode cL_law 630 = .ok (.lcmp, 1) := by decide +kernel
theorem dL_law_631 : decode cL_law 631 = .ok (.ifCond .eq 5, 3) := by decide +kernel
theorem dL_law_634 : decode cL_law 634 = .ok (.iconst 0, 1) := by decide +kernel
theorem dL_law_635 : decode cL_law 635 = .ok (.ireturn, 1) := by decide +kernel
theorem dL_law_636 : decode cL_law 636 = .ok (.goto 748, 3) := by decide +kernel
theorem dL_law_639 : decode cL_law 639 = .ok (.aload_n 1, 1) := by decide +kernel
theorem dL_law_640 : decode cL_law 640 = .ok (.aload_n 3, 1) := by decide +kernel
theorem dL_law_641 : decode cL_law 641 = .ok (.invokestatic 116, 3) := by decide +kernel
theorem dL_law_644 : decode cL_law 644 = .ok (.istore 5, 2) := by decide +kernel
theorem dL_law_646 : decode cL_law 646 = .ok (.aload_n 2, 1) := by decide +kernel
theorem dL_law_647 : decode cL_law 647 = .ok (.invokevirtual 119, 3) := by decide +kernel
theorem dL_law_650 : decode cL_law 650 = .ok (.istore 6, 2) := by decide +kernel
theorem dL_law_652 : decode cL_law 652 = .ok (.aload_n 2, 1) := by decide +kernel
theorem dL_law_653 : decode cL_law 653 = .ok (.invokevirtual 91, 3) := by decide +kernel
theorem dL_law_656 : decode cL_law 656 = .ok (.iload 5, 2) := by decide +kernel
theorem dL_law_658 : decode cL_law 658 = .ok (.if_icmp .eq 5, 3) := by decide +kernel
theorem dL_law_661 : decode cL_law 661 = .ok (.iconst 0, 1) := by decide +kernel
theorem dL_law_662 : decode cL_law 662 = .ok (.ireturn, 1) := by decide +kernel
theorem dL_law_663 : decode cL_law 663 = .ok (.iload 5, 2) := by decide +kernel
theorem dL_law_665 : decode cL_law 665 = .ok (.ifCond .ne 15, 3) := by decide +kernel
theorem dL_law_668 : decode cL_law 668 = .ok (.aload_n 3, 1) := by decide +kernel
theorem dL_law_669 : decode cL_law 669 = .ok (.iconst 0, 1) := by decide +kernel
theorem dL_law_670 : decode cL_law 670 = .ok (.laload, 1) := by decide +kernel
theorem dL_law_671 : decode cL_law 671 = .ok (.iload 6, 2) := by decide +kernel
theorem dL_law_673 : decode cL_law 673 = .ok (.i2l, 1) := by decide +kernel
theorem dL_law_674 : decode cL_law 674 = .ok (.lcmp, 1) := by decide +kernel
theorem dL_law_675 : decode cL_law 675 = .ok (.ifCond .eq 5, 3) := by decide +kernel
theorem dL_law_678 : decode cL_law 678 = .ok (.iconst 0, 1) := by decide +kernel
theorem dL_law_679 : decode cL_law 679 = .ok (.ireturn, 1) := by decide +kernel
theorem dL_law_680 : decode cL_law 680 = .ok (.goto 704, 3) := by decide +kernel
theorem dL_law_683 : decode cL_law 683 = .ok (.aload_n 1, 1) := by decide +kernel
theorem dL_law_684 : decode cL_law 684 = .ok (.invokevirtual 120, 3) := by decide +kernel
theorem dL_law_687 : decode cL_law 687 = .ok (.aload_n 2, 1) := by decide +kernel
theorem dL_law_688 : decode cL_law 688 = .ok (.invokevirtual 123, 3) := by decide +kernel
theorem dL_law_691 : decode cL_law 691 = .ok (.if_icmp .eq 693, 3) := by decide +kernel
theorem dL_law_694 : decode cL_law 694 = .ok (.iconst 0, 1) := by decide +kernel
theorem dL_law_695 : decode cL_law 695 = .ok (.ireturn, 1) := by decide +kernel
theorem dL_law_696 : decode cL_law 696 = .ok (.aload_n 1, 1) := by decide +kernel
theorem dL_law_697 : decode cL_law 697 = .ok (.aload_n 0, 1) := by decide +kernel
theorem dL_law_698 : decode cL_law 698 = .ok (.iload 4, 2) := by decide +kernel
theorem dL_law_700 : decode cL_law 700 = .ok (.iconst 1, 1) := by decide +kernel
theorem dL_law_701 : decode cL_law 701 = .ok (.iadd, 1) := by decide +kernel
theorem dL_law_702 : decode cL_law 702 = .ok (.iaload, 1) := by decide +kernel
theorem dL_law_703 : decode cL_law 703 = .ok (.aload_n 0, 1) := by decide +kernel
theorem dL_law_704 : decode cL_law 704 = .ok (.iload 4, 2) := by decide +kernel
theorem dL_law_706 : decode cL_law 706 = .ok (.iconst 2, 1) := by decide +kernel
theorem dL_law_707 : decode cL_law 707 = .ok (.iadd, 1) := by decide +kernel
theorem dL_law_708 : decode cL_law 708 = .ok (.iaload, 1) := by decide +kernel
theorem dL_law_709 : decode cL_law 709 = .ok (.aload_n 3, 1) := by decide +kernel
theorem dL_law_710 : decode cL_law 710 = .ok (.invokestatic 124, 3) := by decide +kernel
theorem dL_law_713 : decode cL_law 713 = .ok (.istore 5, 2) := by decide +kernel
theorem dL_law_715 : decode cL_law 715 = .ok (.aload_n 2, 1) := by decide +kernel
theorem dL_law_716 : decode cL_law 716 = .ok (.aload_n 0, 1) := by decide +kernel
theorem dL_law_717 : decode cL_law 717 = .ok (.iload 4, 2) := by decide +kernel
theorem dL_law_719 : decode cL_law 719 = .ok (.iconst 1, 1) := by decide +kernel
theorem dL_law_720 : decode cL_law 720 = .ok (.iadd, 1) := by decide +kernel
theorem dL_law_721 : decode cL_law 721 = .ok (.iaload, 1) := by decide +kernel
theorem dL_law_722 : decode cL_law 722 = .ok (.aload_n 0, 1) := by decide +kernel
theorem dL_law_723 : decode cL_law 723 = .ok (.iload 4, 2) := by decide +kernel
theorem dL_law_725 : decode cL_law 725 = .ok (.iconst 2, 1) := by decide +kernel
theorem dL_law_726 : decode cL_law 726 = .ok (.iadd, 1) := by decide +kernel
theorem dL_law_727 : decode cL_law 727 = .ok (.iaload, 1) := by decide +kernel
theorem dL_law_728 : decode cL_law 728 = .ok (.invokevirtual 126, 3) := by decide +kernel
theorem dL_law_731 : decode cL_law 731 = .ok (.istore 6, 2) := by decide +kernel
theorem dL_law_733 : decode cL_law 733 = .ok (.aload_n 2, 1) := by decide +kernel
theorem dL_law_734 : decode cL_law 734 = .ok (.invokevirtual 91, 3) := by decide +kernel
theorem dL_law_737 : decode cL_law 737 = .ok (.iload 5, 2) := by decide +kernel
theorem dL_law_739 : decode cL_law 739 = .ok (.if_icmp .eq 5, 3) := by decide +kernel
theorem dL_law_742 : decode cL_law 742 = .ok (.iconst 0, 1) := by decide +kernel
theorem dL_law_743 : decode cL_law 743 = .ok (.ireturn, 1) := by decide +kernel
theorem dL_law_744 : decode cL_law 744 = .ok (.iload 5, 2) := by decide +kernel
theorem dL_law_746 : decode cL_law 746 = .ok (.ifCond .ne 15, 3) := by decide +kernel
theorem dL_law_749 : decode cL_law 749 = .ok (.aload_n 3, 1) := by decide +kernel
theorem dL_law_750 : decode cL_law 750 = .ok (.iconst 0, 1) := by decide +kernel
theorem dL_law_751 : decode cL_law 751 = .ok (.laload, 1) := by decide +kernel
theorem dL_law_752 : decode cL_law 752 = .ok (.iload 6, 2) := by decide +kernel
theorem dL_law_754 : decode cL_law 754 = .ok (.i2l, 1) := by decide +kernel
theorem dL_law_755 : decode cL_law 755 = .ok (.lcmp, 1) := by decide +kernel
theorem dL_law_756 : decode cL_law 756 = .ok (.ifCond .eq 5, 3) := by decide +kernel
theorem dL_law_759 : decode cL_law 759 = .ok (.iconst 0, 1) := by decide +kernel
theorem dL_law_760 : decode cL_law 760 = .ok (.ireturn, 1) := by decide +kernel
theorem dL_law_761 : decode cL_law 761 = .ok (.goto 623, 3) := by decide +kernel
theorem dL_law_764 : decode cL_law 764 = .ok (.aload_n 1, 1) := by decide +kernel
theorem dL_law_765 : decode cL_law 765 = .ok (.aload_n 0, 1) := by decide +kernel
theorem dL_law_766 : decode cL_law 766 = .ok (.iload 4, 2) := by decide +kernel
theorem dL_law_768 : decode cL_law 768 = .ok (.iconst 1, 1) := by decide +kernel
theorem dL_law_769 : decode cL_law 769 = .ok (.iadd, 1) := by decide +kernel
theorem dL_law_770 : decode cL_law 770 = .ok (.iaload, 1) := by decide +kernel
theorem dL_law_771 : decode cL_law 771 = .ok (.aload_n 0, 1) := by decide +kernel
theorem dL_law_772 : decode cL_law 772 = .ok (.iload 4, 2) := by decide +kernel
theorem dL_law_774 : decode cL_law 774 = .ok (.iconst 2, 1) := by decide +kernel
theorem dL_law_775 : decode cL_law 775 = .ok (.iadd, 1) := by decide +kernel
theorem dL_law_776 : decode cL_law 776 = .ok (.iaload, 1) := by decide +kernel
theorem dL_law_777 : decode cL_law 777 = .ok (.aload_n 3, 1) := by decide +kernel
theorem dL_law_778 : decode cL_law 778 = .ok (.invokestatic 127, 3) := by decide +kernel
theorem dL_law_781 : decode cL_law 781 = .ok (.istore 5, 2) := by decide +kernel
theorem dL_law_783 : decode cL_law 783 = .ok (.aload_n 2, 1) := by decide +kernel
theorem dL_law_784 : decode cL_law 784 = .ok (.aload_n 0, 1) := by decide +kernel
theorem dL_law_785 : decode cL_law 785 = .ok (.iload 4, 2) := by decide +kernel
theorem dL_law_787 : decode cL_law 787 = .ok (.iconst 1, 1) := by decide +kernel
theorem dL_law_788 : decode cL_law 788 = .ok (.iadd, 1) := by decide +kernel
theorem dL_law_789 : decode cL_law 789 = .ok (.iaload, 1) := by decide +kernel
theorem dL_law_790 : decode cL_law 790 = .ok (.aload_n 0, 1) := by decide +kernel
theorem dL_law_791 : decode cL_law 791 = .ok (.iload 4, 2) := by decide +kernel
theorem dL_law_793 : decode cL_law 793 = .ok (.iconst 2, 1) := by decide +kernel
theorem dL_law_794 : decode cL_law 794 = .ok (.iadd, 1) := by decide +kernel
theorem dL_law_795 : decode cL_law 795 = .ok (.iaload, 1) := by decide +kernel
theorem dL_law_796 : decode cL_law 796 = .ok (.invokevirtual 129, 3) := by decide +kernel
theorem dL_law_799 : decode cL_law 799 = .ok (.istore 6, 2) := by decide +kernel
theorem dL_law_801 : decode cL_law 801 = .ok (.aload_n 2, 1) := by decide +kernel
theorem dL_law_802 : decode cL_law 802 = .ok (.invokevirtual 91, 3) := by decide +kernel
theorem dL_law_805 : decode cL_law 805 = .ok (.iload 5, 2) := by decide +kernel
theorem dL_law_807 : decode cL_law 807 = .ok (.if_icmp .eq 5, 3) := by decide +kernel
theorem dL_law_810 : decode cL_law 810 = .ok (.iconst 0, 1) := by decide +kernel
theorem dL_law_811 : decode cL_law 811 = .ok (.ireturn, 1) := by decide +kernel
theorem dL_law_812 : decode cL_law 812 = .ok (.iload 5, 2) := by decide +kernel
theorem dL_law_814 : decode cL_law 814 = .ok (.ifCond .ne 15, 3) := by decide +kernel
theorem dL_law_817 : decode cL_law 817 = .ok (.aload_n 3, 1) := by decide +kernel
theorem dL_law_818 : decode cL_law 818 = .ok (.iconst 0, 1) := by decide +kernel
theorem dL_law_819 : decode cL_law 819 = .ok (.laload, 1) := by decide +kernel
theorem dL_law_820 : decode cL_law 820 = .ok (.iload 6, 2) := by decide +kernel
theorem dL_law_822 : decode cL_law 822 = .ok (.i2l, 1) := by decide +kernel
theorem dL_law_823 : decode cL_law 823 = .ok (.lcmp, 1) := by decide +kernel
theorem dL_law_824 : decode cL_law 824 = .ok (.ifCond .eq 5, 3) := by decide +kernel
theorem dL_law_827 : decode cL_law 827 = .ok (.iconst 0, 1) := by decide +kernel
theorem dL_law_828 : decode cL_law 828 = .ok (.ireturn, 1) := by decide +kernel
theorem dL_law_829 : decode cL_law 829 = .ok (.goto 555, 3) := by decide +kernel
theorem dL_law_832 : decode cL_law 832 = .ok (.aload_n 1, 1) := by decide +kernel
theorem dL_law_833 : decode cL_law 833 = .ok (.aload_n 0, 1) := by decide +kernel
theorem dL_law_834 : decode cL_law 834 = .ok (.iload 4, 2) := by decide +kernel
theorem dL_law_836 : decode cL_law 836 = .ok (.iconst 1, 1) := by decide +kernel
theorem dL_law_837 : decode cL_law 837 = .ok (.iadd, 1) := by decide +kernel
theorem dL_law_838 : decode cL_law 838 = .ok (.iaload, 1) := by decide +kernel
theorem dL_law_839 : decode cL_law 839 = .ok (.aload_n 3, 1) := by decide +kernel
theorem dL_law_840 : decode cL_law 840 = .ok (.invokestatic 130, 3) := by decide +kernel
theorem dL_law_843 : decode cL_law 843 = .ok (.istore 5, 2) := by decide +kernel
theorem dL_law_845 : decode cL_law 845 = .ok (.aload_n 2, 1) := by decide +kernel
theorem dL_law_846 : decode cL_law 846 = .ok (.aload_n 0, 1) := by decide +kernel
theorem dL_law_847 : decode cL_law 847 = .ok (.iload 4, 2) := by decide +kernel
theorem dL_law_849 : decode cL_law 849 = .ok (.iconst 1, 1) := by decide +kernel
theorem dL_law_850 : decode cL_law 850 = .ok (.iadd, 1) := by decide +kernel
theorem dL_law_851 : decode cL_law 851 = .ok (.iaload, 1) := by decide +kernel
theorem dL_law_852 : decode cL_law 852 = .ok (.invokevirtual 132, 3) := by decide +kernel
theorem dL_law_855 : decode cL_law 855 = .ok (.istore 6, 2) := by decide +kernel
theorem dL_law_857 : decode cL_law 857 = .ok (.aload_n 2, 1) := by decide +kernel
theorem dL_law_858 : decode cL_law 858 = .ok (.invokevirtual 91, 3) := by decide +kernel
theorem dL_law_861 : decode cL_law 861 = .ok (.iload 5, 2) := by decide +kernel
theorem dL_law_863 : decode cL_law 863 = .ok (.if_icmp .eq 5, 3) := by decide +kernel
theorem dL_law_866 : decode cL_law 866 = .ok (.iconst 0, 1) := by decide +kernel
theorem dL_law_867 : decode cL_law 867 = .ok (.ireturn, 1) := by decide +kernel
theorem dL_law_868 : decode cL_law 868 = .ok (.iload 5, 2) := by decide +kernel
theorem dL_law_870 : decode cL_law 870 = .ok (.ifCond .ne 15, 3) := by decide +kernel
theorem dL_law_873 : decode cL_law 873 = .ok (.aload_n 3, 1) := by decide +kernel
theorem dL_law_874 : decode cL_law 874 = .ok (.iconst 0, 1) := by decide +kernel
theorem dL_law_875 : decode cL_law 875 = .ok (.laload, 1) := by decide +kernel
theorem dL_law_876 : decode cL_law 876 = .ok (.iload 6, 2) := by decide +kernel
theorem dL_law_878 : decode cL_law 878 = .ok (.i2l, 1) := by decide +kernel
theorem dL_law_879 : decode cL_law 879 = .ok (.lcmp, 1) := by decide +kernel
theorem dL_law_880 : decode cL_law 880 = .ok (.ifCond .eq 5, 3) := by decide +kernel
theorem dL_law_883 : decode cL_law 883 = .ok (.iconst 0, 1) := by decide +kernel
theorem dL_law_884 : decode cL_law 884 = .ok (.ireturn, 1) := by decide +kernel
theorem dL_law_885 : decode cL_law 885 = .ok (.goto 499, 3) := by decide +kernel
theorem dL_law_888 : decode cL_law 888 = .ok (.aload_n 1, 1) := by decide +kernel
theorem dL_law_889 : decode cL_law 889 = .ok (.aload_n 0, 1) := by decide +kernel
theorem dL_law_890 : decode cL_law 890 = .ok (.iload 4, 2) := by decide +kernel
theorem dL_law_892 : decode cL_law 892 = .ok (.iconst 1, 1) := by decide +kernel
theorem dL_law_893 : decode cL_law 893 = .ok (.iadd, 1) := by decide +kernel
theorem dL_law_894 : decode cL_law 894 = .ok (.iaload, 1) := by decide +kernel
theorem dL_law_895 : decode cL_law 895 = .ok (.aload_n 3, 1) := by decide +kernel
theorem dL_law_896 : decode cL_law 896 = .ok (.invokestatic 133, 3) := by decide +kernel
theorem dL_law_899 : decode cL_law 899 = .ok (.istore 5, 2) := by decide +kernel
theorem dL_law_901 : decode cL_law 901 = .ok (.aload_n 2, 1) := by decide +kernel
theorem dL_law_902 : decode cL_law 902 = .ok (.aload_n 0, 1) := by decide +kernel
theorem dL_law_903 : decode cL_law 903 = .ok (.iload 4, 2) := by decide +kernel
theorem dL_law_905 : decode cL_law 905 = .ok (.iconst 1, 1) := by decide +kernel
theorem dL_law_906 : decode cL_law 906 = .ok (.iadd, 1) := by decide +kernel
theorem dL_law_907 : decode cL_law 907 = .ok (.iaload, 1) := by decide +kernel
theorem dL_law_908 : decode cL_law 908 = .ok (.invokevirtual 135, 3) := by decide +kernel
theorem dL_law_911 : decode cL_law 911 = .ok (.istore 6, 2) := by decide +kernel
theorem dL_law_913 : decode cL_law 913 = .ok (.aload_n 2, 1) := by decide +kernel
theorem dL_law_914 : decode cL_law 914 = .ok (.invokevirtual 91, 3) := by decide +kernel
theorem dL_law_917 : decode cL_law 917 = .ok (.iload 5, 2) := by decide +kernel
theorem dL_law_919 : decode cL_law 919 = .ok (.if_icmp .eq 5, 3) := by decide +kernel
theorem dL_law_922 : decode cL_law 922 = .ok (.iconst 0, 1) := by decide +kernel
theorem dL_law_923 : decode cL_law 923 = .ok (.ireturn, 1) := by decide +kernel
theorem dL_law_924 : decode cL_law 924 = .ok (.iload 5, 2) := by decide +kernel
theorem dL_law_926 : decode cL_law 926 = .ok (.ifCond .ne 15, 3) := by decide +kernel
theorem dL_law_929 : decode cL_law 929 = .ok (.aload_n 3, 1) := by decide +kernel
theorem dL_law_930 : decode cL_law 930 = .ok (.iconst 0, 1) := by decide +kernel
theorem dL_law_931 : decode cL_law 931 = .ok (.laload, 1) := by decide +kernel
theorem dL_law_932 : decode cL_law 932 = .ok (.iload 6, 2) := by decide +kernel
theorem dL_law_934 : decode cL_law 934 = .ok (.i2l, 1) := by decide +kernel
theorem dL_law_935 : decode cL_law 935 = .ok (.lcmp, 1) := by decide +kernel
theorem dL_law_936 : decode cL_law 936 = .ok (.ifCond .eq 5, 3) := by decide +kernel
theorem dL_law_939 : decode cL_law 939 = .ok (.iconst 0, 1) := by decide +kernel
theorem dL_law_940 : decode cL_law 940 = .ok (.ireturn, 1) := by decide +kernel
theorem dL_law_941 : decode cL_law 941 = .ok (.goto 443, 3) := by decide +kernel
theorem dL_law_944 : decode cL_law 944 = .ok (.aload_n 1, 1) := by decide +kernel
theorem dL_law_945 : decode cL_law 945 = .ok (.aload_n 0, 1) := by decide +kernel
theorem dL_law_946 : decode cL_law 946 = .ok (.iload 4, 2) := by decide +kernel
theorem dL_law_948 : decode cL_law 948 = .ok (.iconst 1, 1) := by decide +kernel
theorem dL_law_949 : decode cL_law 949 = .ok (.iadd, 1) := by decide +kernel
theorem dL_law_950 : decode cL_law 950 = .ok (.iaload, 1) := by decide +kernel
theorem dL_law_951 : decode cL_law 951 = .ok (.aload_n 3, 1) := by decide +kernel
theorem dL_law_952 : decode cL_law 952 = .ok (.invokestatic 136, 3) := by decide +kernel
theorem dL_law_955 : decode cL_law 955 = .ok (.istore 5, 2) := by decide +kernel
theorem dL_law_957 : decode cL_law 957 = .ok (.aload_n 2, 1) := by decide +kernel
theorem dL_law_958 : decode cL_law 958 = .ok (.aload_n 0, 1) := by decide +kernel
theorem dL_law_959 : decode cL_law 959 = .ok (.iload 4, 2) := by decide +kernel
theorem dL_law_961 : decode cL_law 961 = .ok (.iconst 1, 1) := by decide +kernel
theorem dL_law_962 : decode cL_law 962 = .ok (.iadd, 1) := by decide +kernel
theorem dL_law_963 : decode cL_law 963 = .ok (.iaload, 1) := by decide +kernel
theorem dL_law_964 : decode cL_law 964 = .ok (.invokevirtual 138, 3) := by decide +kernel
theorem dL_law_967 : decode cL_law 967 = .ok (.istore 6, 2) := by decide +kernel
theorem dL_law_969 : decode cL_law 969 = .ok (.aload_n 2, 1) := by decide +kernel
theorem dL_law_970 : decode cL_law 970 = .ok (.invokevirtual 91, 3) := by decide +kernel
theorem dL_law_973 : decode cL_law 973 = .ok (.iload 5, 2) := by decide +kernel
theorem dL_law_975 : decode cL_law 975 = .ok (.if_icmp .eq 5, 3) := by decide +kernel
theorem dL_law_978 : decode cL_law 978 = .ok (.iconst 0, 1) := by decide +kernel
theorem dL_law_979 : decode cL_law 979 = .ok (.ireturn, 1) := by decide +kernel
theorem dL_law_980 : decode cL_law 980 = .ok (.iload 5, 2) := by decide +kernel
theorem dL_law_982 : decode cL_law 982 = .ok (.ifCond .ne 15, 3) := by decide +kernel
theorem dL_law_985 : decode cL_law 985 = .ok (.aload_n 3, 1) := by decide +kernel
theorem dL_law_986 : decode cL_law 986 = .ok (.iconst 0, 1) := by decide +kernel
theorem dL_law_987 : decode cL_law 987 = .ok (.laload, 1) := by decide +kernel
theorem dL_law_988 : decode cL_law 988 = .ok (.iload 6, 2) := by decide +kernel
theorem dL_law_990 : decode cL_law 990 = .ok (.i2l, 1) := by decide +kernel
theorem dL_law_991 : decode cL_law 991 = .ok (.lcmp, 1) := by decide +kernel
theorem dL_law_992 : decode cL_law 992 = .ok (.ifCond .eq 5, 3) := by decide +kernel
theorem dL_law_995 : decode cL_law 995 = .ok (.iconst 0, 1) := by decide +kernel
theorem dL_law_996 : decode cL_law 996 = .ok (.ireturn, 1) := by decide +kernel
theorem dL_law_997 : decode cL_law 997 = .ok (.goto 387, 3) := by decide +kernel
theorem dL_law_1000 : decode cL_law 1000 = .ok (.aload_n 1, 1) := by decide +kernel
theorem dL_law_1001 : decode cL_law 1001 = .ok (.aload_n 0, 1) := by decide +kernel
theorem dL_law_1002 : decode cL_law 1002 = .ok (.iload 4, 2) := by decide +kernel
theorem dL_law_1004 : decode cL_law 1004 = .ok (.iconst 1, 1) := by decide +kernel
theorem dL_law_1005 : decode cL_law 1005 = .ok (.iadd, 1) := by decide +kernel
theorem dL_law_1006 : decode cL_law 1006 = .ok (.iaload, 1) := by decide +kernel
theorem dL_law_1007 : decode cL_law 1007 = .ok (.aload_n 0, 1) := by decide +kernel
theorem dL_law_1008 : decode cL_law 1008 = .ok (.iload 4, 2) := by decide +kernel
theorem dL_law_1010 : decode cL_law 1010 = .ok (.iconst 2, 1) := by decide +kernel
theorem dL_law_1011 : decode cL_law 1011 = .ok (.iadd, 1) := by decide +kernel
theorem dL_law_1012 : decode cL_law 1012 = .ok (.iaload, 1) := by decide +kernel
theorem dL_law_1013 : decode cL_law 1013 = .ok (.aload_n 3, 1) := by decide +kernel
theorem dL_law_1014 : decode cL_law 1014 = .ok (.invokestatic 139, 3) := by decide +kernel
theorem dL_law_1017 : decode cL_law 1017 = .ok (.istore 5, 2) := by decide +kernel
theorem dL_law_1019 : decode cL_law 1019 = .ok (.aload_n 2, 1) := by decide +kernel
theorem dL_law_1020 : decode cL_law 1020 = .ok (.aload_n 0, 1) := by decide +kernel
theorem dL_law_1021 : decode cL_law 1021 = .ok (.iload 4, 2) := by decide +kernel
theorem dL_law_1023 : decode cL_law 1023 = .ok (.iconst 1, 1) := by decide +kernel
theorem dL_law_1024 : decode cL_law 1024 = .ok (.iadd, 1) := by decide +kernel
theorem dL_law_1025 : decode cL_law 1025 = .ok (.iaload, 1) := by decide +kernel
theorem dL_law_1026 : decode cL_law 1026 = .ok (.aload_n 0, 1) := by decide +kernel
theorem dL_law_1027 : decode cL_law 1027 = .ok (.iload 4, 2) := by decide +kernel
theorem dL_law_1029 : decode cL_law 1029 = .ok (.iconst 2, 1) := by decide +kernel
theorem dL_law_1030 : decode cL_law 1030 = .ok (.iadd, 1) := by decide +kernel
theorem dL_law_1031 : decode cL_law 1031 = .ok (.iaload, 1) := by decide +kernel
theorem dL_law_1032 : decode cL_law 1032 = .ok (.invokevirtual 141, 3) := by decide +kernel
theorem dL_law_1035 : decode cL_law 1035 = .ok (.istore 6, 2) := by decide +kernel
theorem dL_law_1037 : decode cL_law 1037 = .ok (.aload_n 2, 1) := by decide +kernel
theorem dL_law_1038 : decode cL_law 1038 = .ok (.invokevirtual 91, 3) := by decide +kernel
theorem dL_law_1041 : decode cL_law 1041 = .ok (.iload 5, 2) := by decide +kernel
theorem dL_law_1043 : decode cL_law 1043 = .ok (.if_icmp .eq 5, 3) := by decide +kernel
theorem dL_law_1046 : decode cL_law 1046 = .ok (.iconst 0, 1) := by decide +kernel
theorem dL_law_1047 : decode cL_law 1047 = .ok (.ireturn, 1) := by decide +kernel
theorem dL_law_1048 : decode cL_law 1048 = .ok (.iload 5, 2) := by decide +kernel
theorem dL_law_1050 : decode cL_law 1050 = .ok (.ifCond .ne 15, 3) := by decide +kernel
theorem dL_law_1053 : decode cL_law 1053 = .ok (.aload_n 3, 1) := by decide +kernel
theorem dL_law_1054 : decode cL_law 1054 = .ok (.iconst 0, 1) := by decide +kernel
theorem dL_law_1055 : decode cL_law 1055 = .ok (.laload, 1) := by decide +kernel
theorem dL_law_1056 : decode cL_law 1056 = .ok (.iload 6, 2) := by decide +kernel
theorem dL_law_1058 : decode cL_law 1058 = .ok (.i2l, 1) := by decide +kernel
theorem dL_law_1059 : decode cL_law 1059 = .ok (.lcmp, 1) := by decide +kernel
theorem dL_law_1060 : decode cL_law 1060 = .ok (.ifCond .eq 5, 3) := by decide +kernel
theorem dL_law_1063 : decode cL_law 1063 = .ok (.iconst 0, 1) := by decide +kernel
theorem dL_law_1064 : decode cL_law 1064 = .ok (.ireturn, 1) := by decide +kernel
theorem dL_law_1065 : decode cL_law 1065 = .ok (.goto 319, 3) := by decide +kernel
theorem dL_law_1068 : decode cL_law 1068 = .ok (.aload_n 1, 1) := by decide +kernel
theorem dL_law_1069 : decode cL_law 1069 = .ok (.aload_n 0, 1) := by decide +kernel
theorem dL_law_1070 : decode cL_law 1070 = .ok (.iload 4, 2) := by decide +kernel
theorem dL_law_1072 : decode cL_law 1072 = .ok (.iconst 1, 1) := by decide +kernel
theorem dL_law_1073 : decode cL_law 1073 = .ok (.iadd, 1) := by decide +kernel
theorem dL_law_1074 : decode cL_law 1074 = .ok (.iaload, 1) := by decide +kernel
theorem dL_law_1075 : decode cL_law 1075 = .ok (.aload_n 0, 1) := by decide +kernel
theorem dL_law_1076 : decode cL_law 1076 = .ok (.iload 4, 2) := by decide +kernel
theorem dL_law_1078 : decode cL_law 1078 = .ok (.iconst 2, 1) := by decide +kernel
theorem dL_law_1079 : decode cL_law 1079 = .ok (.iadd, 1) := by decide +kernel
theorem dL_law_1080 : decode cL_law 1080 = .ok (.iaload, 1) := by decide +kernel
theorem dL_law_1081 : decode cL_law 1081 = .ok (.aload_n 3, 1) := by decide +kernel
theorem dL_law_1082 : decode cL_law 1082 = .ok (.invokestatic 142, 3) := by decide +kernel
theorem dL_law_1085 : decode cL_law 1085 = .ok (.istore 5, 2) := by decide +kernel
theorem dL_law_1087 : decode cL_law 1087 = .ok (.aload_n 2, 1) := by decide +kernel
theorem dL_law_1088 : decode cL_law 1088 = .ok (.aload_n 0, 1) := by decide +kernel
theorem dL_law_1089 : decode cL_law 1089 = .ok (.iload 4, 2) := by decide +kernel
theorem dL_law_1091 : decode cL_law 1091 = .ok (.iconst 1, 1) := by decide +kernel
theorem dL_law_1092 : decode cL_law 1092 = .ok (.iadd, 1) := by decide +kernel
theorem dL_law_1093 : decode cL_law 1093 = .ok (.iaload, 1) := by decide +kernel
theorem dL_law_1094 : decode cL_law 1094 = .ok (.aload_n 0, 1) := by decide +kernel
theorem dL_law_1095 : decode cL_law 1095 = .ok (.iload 4, 2) := by decide +kernel
theorem dL_law_1097 : decode cL_law 1097 = .ok (.iconst 2, 1) := by decide +kernel
theorem dL_law_1098 : decode cL_law 1098 = .ok (.iadd, 1) := by decide +kernel
theorem dL_law_1099 : decode cL_law 1099 = .ok (.iaload, 1) := by decide +kernel
theorem dL_law_1100 : decode cL_law 1100 = .ok (.invokevirtual 144, 3) := by decide +kernel
theorem dL_law_1103 : decode cL_law 1103 = .ok (.istore 6, 2) := by decide +kernel
theorem dL_law_1105 : decode cL_law 1105 = .ok (.aload_n 2, 1) := by decide +kernel
theorem dL_law_1106 : decode cL_law 1106 = .ok (.invokevirtual 91, 3) := by decide +kernel
theorem dL_law_1109 : decode cL_law 1109 = .ok (.iload 5, 2) := by decide +kernel
theorem dL_law_1111 : decode cL_law 1111 = .ok (.if_icmp .eq 5, 3) := by decide +kernel
theorem dL_law_1114 : decode cL_law 1114 = .ok (.iconst 0, 1) := by decide +kernel
theorem dL_law_1115 : decode cL_law 1115 = .ok (.ireturn, 1) := by decide +kernel
theorem dL_law_1116 : decode cL_law 1116 = .ok (.iload 5, 2) := by decide +kernel
theorem dL_law_1118 : decode cL_law 1118 = .ok (.ifCond .ne 15, 3) := by decide +kernel
theorem dL_law_1121 : decode cL_law 1121 = .ok (.aload_n 3, 1) := by decide +kernel
theorem dL_law_1122 : decode cL_law 1122 = .ok (.iconst 0, 1) := by decide +kernel
theorem dL_law_1123 : decode cL_law 1123 = .ok (.laload, 1) := by decide +kernel
theorem dL_law_1124 : decode cL_law 1124 = .ok (.iload 6, 2) := by decide +kernel
theorem dL_law_1126 : decode cL_law 1126 = .ok (.i2l, 1) := by decide +kernel
theorem dL_law_1127 : decode cL_law 1127 = .ok (.lcmp, 1) := by decide +kernel
theorem dL_law_1128 : decode cL_law 1128 = .ok (.ifCond .eq 5, 3) := by decide +kernel
theorem dL_law_1131 : decode cL_law 1131 = .ok (.iconst 0, 1) := by decide +kernel
theorem dL_law_1132 : decode cL_law 1132 = .ok (.ireturn, 1) := by decide +kernel
theorem dL_law_1133 : decode cL_law 1133 = .ok (.goto 251, 3) := by decide +kernel
theorem dL_law_1136 : decode cL_law 1136 = .ok (.aload_n 1, 1) := by decide +kernel
theorem dL_law_1137 : decode cL_law 1137 = .ok (.aload_n 0, 1) := by decide +kernel
theorem dL_law_1138 : decode cL_law 1138 = .ok (.iload 4, 2) := by decide +kernel
theorem dL_law_1140 : decode cL_law 1140 = .ok (.iconst 1, 1) := by decide +kernel
theorem dL_law_1141 : decode cL_law 1141 = .ok (.iadd, 1) := by decide +kernel
theorem dL_law_1142 : decode cL_law 1142 = .ok (.iaload, 1) := by decide +kernel
theorem dL_law_1143 : decode cL_law 1143 = .ok (.aload_n 0, 1) := by decide +kernel
theorem dL_law_1144 : decode cL_law 1144 = .ok (.iload 4, 2) := by decide +kernel
theorem dL_law_1146 : decode cL_law 1146 = .ok (.iconst 2, 1) := by decide +kernel
theorem dL_law_1147 : decode cL_law 1147 = .ok (.iadd, 1) := by decide +kernel
theorem dL_law_1148 : decode cL_law 1148 = .ok (.iaload, 1) := by decide +kernel
theorem dL_law_1149 : decode cL_law 1149 = .ok (.aload_n 3, 1) := by decide +kernel
theorem dL_law_1150 : decode cL_law 1150 = .ok (.invokestatic 145, 3) := by decide +kernel
theorem dL_law_1153 : decode cL_law 1153 = .ok (.istore 5, 2) := by decide +kernel
theorem dL_law_1155 : decode cL_law 1155 = .ok (.aload_n 2, 1) := by decide +kernel
theorem dL_law_1156 : decode cL_law 1156 = .ok (.aload_n 0, 1) := by decide +kernel
theorem dL_law_1157 : decode cL_law 1157 = .ok (.iload 4, 2) := by decide +kernel
theorem dL_law_1159 : decode cL_law 1159 = .ok (.iconst 1, 1) := by decide +kernel
theorem dL_law_1160 : decode cL_law 1160 = .ok (.iadd, 1) := by decide +kernel
theorem dL_law_1161 : decode cL_law 1161 = .ok (.iaload, 1) := by decide +kernel
theorem dL_law_1162 : decode cL_law 1162 = .ok (.aload_n 0, 1) := by decide +kernel
theorem dL_law_1163 : decode cL_law 1163 = .ok (.iload 4, 2) := by decide +kernel
theorem dL_law_1165 : decode cL_law 1165 = .ok (.iconst 2, 1) := by decide +kernel
theorem dL_law_1166 : decode cL_law 1166 = .ok (.iadd, 1) := by decide +kernel
theorem dL_law_1167 : decode cL_law 1167 = .ok (.iaload, 1) := by decide +kernel
theorem dL_law_1168 : decode cL_law 1168 = .ok (.invokevirtual 147, 3) := by decide +kernel
theorem dL_law_1171 : decode cL_law 1171 = .ok (.istore 6, 2) := by decide +kernel
theorem dL_law_1173 : decode cL_law 1173 = .ok (.aload_n 2, 1) := by decide +kernel
theorem dL_law_1174 : decode cL_law 1174 = .ok (.invokevirtual 91, 3) := by decide +kernel
theorem dL_law_1177 : decode cL_law 1177 = .ok (.iload 5, 2) := by decide +kernel
theorem dL_law_1179 : decode cL_law 1179 = .ok (.if_icmp .eq 5, 3) := by decide +kernel
theorem dL_law_1182 : decode cL_law 1182 = .ok (.iconst 0, 1) := by decide +kernel
theorem dL_law_1183 : decode cL_law 1183 = .ok (.ireturn, 1) := by decide +kernel
theorem dL_law_1184 : decode cL_law 1184 = .ok (.iload 5, 2) := by decide +kernel
theorem dL_law_1186 : decode cL_law 1186 = .ok (.ifCond .ne 15, 3) := by decide +kernel
theorem dL_law_1189 : decode cL_law 1189 = .ok (.aload_n 3, 1) := by decide +kernel
theorem dL_law_1190 : decode cL_law 1190 = .ok (.iconst 0, 1) := by decide +kernel
theorem dL_law_1191 : decode cL_law 1191 = .ok (.laload, 1) := by decide +kernel
theorem dL_law_1192 : decode cL_law 1192 = .ok (.iload 6, 2) := by decide +kernel
theorem dL_law_1194 : decode cL_law 1194 = .ok (.i2l, 1) := by decide +kernel
theorem dL_law_1195 : decode cL_law 1195 = .ok (.lcmp, 1) := by decide +kernel
theorem dL_law_1196 : decode cL_law 1196 = .ok (.ifCond .eq 5, 3) := by decide +kernel
theorem dL_law_1199 : decode cL_law 1199 = .ok (.iconst 0, 1) := by decide +kernel
theorem dL_law_1200 : decode cL_law 1200 = .ok (.ireturn, 1) := by decide +kernel
theorem dL_law_1201 : decode cL_law 1201 = .ok (.goto 183, 3) := by decide +kernel
theorem dL_law_1204 : decode cL_law 1204 = .ok (.aload_n 1, 1) := by decide +kernel
theorem dL_law_1205 : decode cL_law 1205 = .ok (.aload_n 0, 1) := by decide +kernel
theorem dL_law_1206 : decode cL_law 1206 = .ok (.iload 4, 2) := by decide +kernel
theorem dL_law_1208 : decode cL_law 1208 = .ok (.iconst 1, 1) := by decide +kernel
theorem dL_law_1209 : decode cL_law 1209 = .ok (.iadd, 1) := by decide +kernel
theorem dL_law_1210 : decode cL_law 1210 = .ok (.iaload, 1) := by decide +kernel
theorem dL_law_1211 : decode cL_law 1211 = .ok (.aload_n 0, 1) := by decide +kernel
theorem dL_law_1212 : decode cL_law 1212 = .ok (.iload 4, 2) := by decide +kernel
theorem dL_law_1214 : decode cL_law 1214 = .ok (.iconst 2, 1) := by decide +kernel
theorem dL_law_1215 : decode cL_law 1215 = .ok (.iadd, 1) := by decide +kernel
theorem dL_law_1216 : decode cL_law 1216 = .ok (.iaload, 1) := by decide +kernel
theorem dL_law_1217 : decode cL_law 1217 = .ok (.aload_n 3, 1) := by decide +kernel
theorem dL_law_1218 : decode cL_law 1218 = .ok (.invokestatic 148, 3) := by decide +kernel
theorem dL_law_1221 : decode cL_law 1221 = .ok (.istore 5, 2) := by decide +kernel
theorem dL_law_1223 : decode cL_law 1223 = .ok (.aload_n 2, 1) := by decide +kernel
theorem dL_law_1224 : decode cL_law 1224 = .ok (.aload_n 0, 1) := by decide +kernel
theorem dL_law_1225 : decode cL_law 1225 = .ok (.iload 4, 2) := by decide +kernel
theorem dL_law_1227 : decode cL_law 1227 = .ok (.iconst 1, 1) := by decide +kernel
theorem dL_law_1228 : decode cL_law 1228 = .ok (.iadd, 1) := by decide +kernel
theorem dL_law_1229 : decode cL_law 1229 = .ok (.iaload, 1) := by decide +kernel
theorem dL_law_1230 : decode cL_law 1230 = .ok (.aload_n 0, 1) := by decide +kernel
theorem dL_law_1231 : decode cL_law 1231 = .ok (.iload 4, 2) := by decide +kernel
theorem dL_law_1233 : decode cL_law 1233 = .ok (.iconst 2, 1) := by decide +kernel
theorem dL_law_1234 : decode cL_law 1234 = .ok (.iadd, 1) := by decide +kernel
theorem dL_law_1235 : decode cL_law 1235 = .ok (.iaload, 1) := by decide +kernel
theorem dL_law_1236 : decode cL_law 1236 = .ok (.invokevirtual 150, 3) := by decide +kernel
theorem dL_law_1239 : decode cL_law 1239 = .ok (.istore 6, 2) := by decide +kernel
theorem dL_law_1241 : decode cL_law 1241 = .ok (.aload_n 2, 1) := by decide +kernel
theorem dL_law_1242 : decode cL_law 1242 = .ok (.invokevirtual 91, 3) := by decide +kernel
theorem dL_law_1245 : decode cL_law 1245 = .ok (.iload 5, 2) := by decide +kernel
theorem dL_law_1247 : decode cL_law 1247 = .ok (.if_icmp .eq 5, 3) := by decide +kernel
theorem dL_law_1250 : decode cL_law 1250 = .ok (.iconst 0, 1) := by decide +kernel
theorem dL_law_1251 : decode cL_law 1251 = .ok (.ireturn, 1) := by decide +kernel
theorem dL_law_1252 : decode cL_law 1252 = .ok (.iload 5, 2) := by decide +kernel
theorem dL_law_1254 : decode cL_law 1254 = .ok (.ifCond .ne 15, 3) := by decide +kernel
theorem dL_law_1257 : decode cL_law 1257 = .ok (.aload_n 3, 1) := by decide +kernel
theorem dL_law_1258 : decode cL_law 1258 = .ok (.iconst 0, 1) := by decide +kernel
theorem dL_law_1259 : decode cL_law 1259 = .ok (.laload, 1) := by decide +kernel
theorem dL_law_1260 : decode cL_law 1260 = .ok (.iload 6, 2) := by decide +kernel
theorem dL_law_1262 : decode cL_law 1262 = .ok (.i2l, 1) := by decide +kernel
theorem dL_law_1263 : decode cL_law 1263 = .ok (.lcmp, 1) := by decide +kernel
theorem dL_law_1264 : decode cL_law 1264 = .ok (.ifCond .eq 5, 3) := by decide +kernel
theorem dL_law_1267 : decode cL_law 1267 = .ok (.iconst 0, 1) := by decide +kernel
theorem dL_law_1268 : decode cL_law 1268 = .ok (.ireturn, 1) := by decide +kernel
theorem dL_law_1269 : decode cL_law 1269 = .ok (.goto 115, 3) := by decide +kernel
theorem dL_law_1272 : decode cL_law 1272 = .ok (.aload_n 1, 1) := by decide +kernel
theorem dL_law_1273 : decode cL_law 1273 = .ok (.aload_n 0, 1) := by decide +kernel
theorem dL_law_1274 : decode cL_law 1274 = .ok (.iload 4, 2) := by decide +kernel
theorem dL_law_1276 : decode cL_law 1276 = .ok (.iconst 1, 1) := by decide +kernel
theorem dL_law_1277 : decode cL_law 1277 = .ok (.iadd, 1) := by decide +kernel
theorem dL_law_1278 : decode cL_law 1278 = .ok (.iaload, 1) := by decide +kernel
theorem dL_law_1279 : decode cL_law 1279 = .ok (.aload_n 3, 1) := by decide +kernel
theorem dL_law_1280 : decode cL_law 1280 = .ok (.invokestatic 151, 3) := by decide +kernel
theorem dL_law_1283 : decode cL_law 1283 = .ok (.istore 5, 2) := by decide +kernel
theorem dL_law_1285 : decode cL_law 1285 = .ok (.aload_n 2, 1) := by decide +kernel
theorem dL_law_1286 : decode cL_law 1286 = .ok (.aload_n 0, 1) := by decide +kernel
theorem dL_law_1287 : decode cL_law 1287 = .ok (.iload 4, 2) := by decide +kernel
theorem dL_law_1289 : decode cL_law 1289 = .ok (.iconst 1, 1) := by decide +kernel
theorem dL_law_1290 : decode cL_law 1290 = .ok (.iadd, 1) := by decide +kernel
theorem dL_law_1291 : decode cL_law 1291 = .ok (.iaload, 1) := by decide +kernel
theorem dL_law_1292 : decode cL_law 1292 = .ok (.invokevirtual 153, 3) := by decide +kernel
theorem dL_law_1295 : decode cL_law 1295 = .ok (.istore 6, 2) := by decide +kernel
theorem dL_law_1297 : decode cL_law 1297 = .ok (.aload_n 2, 1) := by decide +kernel
theorem dL_law_1298 : decode cL_law 1298 = .ok (.invokevirtual 91, 3) := by decide +kernel
theorem dL_law_1301 : decode cL_law 1301 = .ok (.iload 5, 2) := by decide +kernel
theorem dL_law_1303 : decode cL_law 1303 = .ok (.if_icmp .eq 5, 3) := by decide +kernel
theorem dL_law_1306 : decode cL_law 1306 = .ok (.iconst 0, 1) := by decide +kernel
theorem dL_law_1307 : decode cL_law 1307 = .ok (.ireturn, 1) := by decide +kernel
theorem dL_law_1308 : decode cL_law 1308 = .ok (.iload 5, 2) := by decide +kernel
theorem dL_law_1310 : decode cL_law 1310 = .ok (.ifCond .ne 15, 3) := by decide +kernel
theorem dL_law_1313 : decode cL_law 1313 = .ok (.aload_n 3, 1) := by decide +kernel
theorem dL_law_1314 : decode cL_law 1314 = .ok (.iconst 0, 1) := by decide +kernel
theorem dL_law_1315 : decode cL_law 1315 = .ok (.laload, 1) := by decide +kernel
theorem dL_law_1316 : decode cL_law 1316 = .ok (.iload 6, 2) := by decide +kernel
theorem dL_law_1318 : decode cL_law 1318 = .ok (.i2l, 1) := by decide +kernel
theorem dL_law_1319 : decode cL_law 1319 = .ok (.lcmp, 1) := by decide +kernel
theorem dL_law_1320 : decode cL_law 1320 = .ok (.ifCond .eq 5, 3) := by decide +kernel
theorem dL_law_1323 : decode cL_law 1323 = .ok (.iconst 0, 1) := by decide +kernel
theorem dL_law_1324 : decode cL_law 1324 = .ok (.ireturn, 1) := by decide +kernel
theorem dL_law_1325 : decode cL_law 1325 = .ok (.goto 59, 3) := by decide +kernel
theorem dL_law_1328 : decode cL_law 1328 = .ok (.aload_n 1, 1) := by decide +kernel
theorem dL_law_1329 : decode cL_law 1329 = .ok (.aload_n 0, 1) := by decide +kernel
theorem dL_law_1330 : decode cL_law 1330 = .ok (.iload 4, 2) := by decide +kernel
theorem dL_law_1332 : decode cL_law 1332 = .ok (.iconst 1, 1) := by decide +kernel
theorem dL_law_1333 : decode cL_law 1333 = .ok (.iadd, 1) := by decide +kernel
theorem dL_law_1334 : decode cL_law 1334 = .ok (.iaload, 1) := by decide +kernel
theorem dL_law_1335 : decode cL_law 1335 = .ok (.aload_n 3, 1) := by decide +kernel
theorem dL_law_1336 : decode cL_law 1336 = .ok (.invokestatic 154, 3) := by decide +kernel
theorem dL_law_1339 : decode cL_law 1339 = .ok (.istore 5, 2) := by decide +kernel
theorem dL_law_1341 : decode cL_law 1341 = .ok (.aload_n 2, 1) := by decide +kernel
theorem dL_law_1342 : decode cL_law 1342 = .ok (.aload_n 0, 1) := by decide +kernel
theorem dL_law_1343 : decode cL_law 1343 = .ok (.iload 4, 2) := by decide +kernel
theorem dL_law_1345 : decode cL_law 1345 = .ok (.iconst 1, 1) := by decide +kernel
theorem dL_law_1346 : decode cL_law 1346 = .ok (.iadd, 1) := by decide +kernel
theorem dL_law_1347 : decode cL_law 1347 = .ok (.iaload, 1) := by decide +kernel
theorem dL_law_1348 : decode cL_law 1348 = .ok (.invokevirtual 156, 3) := by decide +kernel
theorem dL_law_1351 : decode cL_law 1351 = .ok (.istore 6, 2) := by decide +kernel
theorem dL_law_1353 : decode cL_law 1353 = .ok (.aload_n 2, 1) := by decide +kernel
theorem dL_law_1354 : decode cL_law 1354 = .ok (.invokevirtual 91, 3) := by decide +kernel
theorem dL_law_1357 : decode cL_law 1357 = .ok (.iload 5, 2) := by decide +kernel
theorem dL_law_1359 : decode cL_law 1359 = .ok (.if_icmp .eq 5, 3) := by decide +kernel
theorem dL_law_1362 : decode cL_law 1362 = .ok (.iconst 0, 1) := by decide +kernel
theorem dL_law_1363 : decode cL_law 1363 = .ok (.ireturn, 1) := by decide +kernel
theorem dL_law_1364 : decode cL_law 1364 = .ok (.iload 5, 2) := by decide +kernel
theorem dL_law_1366 : decode cL_law 1366 = .ok (.ifCond .ne 15, 3) := by decide +kernel
theorem dL_law_1369 : decode cL_law 1369 = .ok (.aload_n 3, 1) := by decide +kernel
theorem dL_law_1370 : decode cL_law 1370 = .ok (.iconst 0, 1) := by decide +kernel
theorem dL_law_1371 : decode cL_law 1371 = .ok (.laload, 1) := by decide +kernel
theorem dL_law_1372 : decode cL_law 1372 = .ok (.iload 6, 2) := by decide +kernel
theorem dL_law_1374 : decode cL_law 1374 = .ok (.i2l, 1) := by decide +kernel
theorem dL_law_1375 : decode cL_law 1375 = .ok (.lcmp, 1) := by decide +kernel
theorem dL_law_1376 : decode cL_law 1376 = .ok (.ifCond .eq 5, 3) := by decide +kernel
theorem dL_law_1379 : decode cL_law 1379 = .ok (.iconst 0, 1) := by decide +kernel
theorem dL_law_1380 : decode cL_law 1380 = .ok (.ireturn, 1) := by decide +kernel
theorem dL_law_1381 : decode cL_law 1381 = .ok (.goto 3, 3) := by decide +kernel
theorem dL_law_1384 : decode cL_law 1384 = .ok (.iinc 4 3, 3) := by decide +kernel
theorem dL_law_1387 : decode cL_law 1387 = .ok (.goto (-1364), 3) := by decide +kernel
theorem dL_law_1390 : decode cL_law 1390 = .ok (.iconst 1, 1) := by decide +kernel
theorem dL_law_1391 : decode cL_law 1391 = .ok (.ireturn, 1) := by decide +kernel
abbrev vwCl : List vw_C := [(RX0, TX0, 5), (RX1, TX1, 3), (RX2, TX2, 8), (RX3, TX3, 1), (RX4, TX4, 4), (RX5, TX5, 3), (RX6, TX6, 5), (RX7, TX7, 19)]
