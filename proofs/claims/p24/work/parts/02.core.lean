/-! the judgement RW: a frame of a method over a whole world; its rows, one an instruction, over the kit's -/
abbrev gG : Type := (Launch × Nat) × (va_G × (Nat → ClassId)) × ((Nat → Nat) × Nat) × (Nat × Nat × (Nat → Int32))
abbrev gl (G : gG) : Launch := G.1.1
abbrev gb (G : gG) : Nat := G.1.2
abbrev gD (G : gG) : va_G := G.2.1.1
abbrev gcy (G : gG) : Nat → ClassId := G.2.1.2
abbrev gsa (G : gG) : Nat → Nat := G.2.2.1.1
abbrev gpa (G : gG) : Nat := G.2.2.1.2
abbrev gsb (G : gG) : Nat := G.2.2.2.1
abbrev gsL (G : gG) : Nat := G.2.2.2.2.1
abbrev gsx (G : gG) : Nat → Int32 := G.2.2.2.2.2
/-- a method: class, name, descriptor, locals, what it returns, its handlers -/
abbrev mT : Type := String × String × String × Nat × Option FieldType × List (Nat × Nat × Nat × Nat)
abbrev mO (M : mT) : String := M.1
abbrev mY (M : mT) : MethodName := ⟨M.1, M.2.1, M.2.2.1⟩
abbrev mN (M : mT) : Nat := M.2.2.2.1
abbrev mR (M : mT) : Option FieldType := M.2.2.2.2.1
abbrev mH (M : mT) : List (Nat × Nat × Nat × Nat) := M.2.2.2.2.2
def gA (G : gG) : Nat → Prop := fun q => gb G ≤ q
def gTys (G : gG) : List (ClassId × FieldType) := [(gcy G 0, .int), (gcy G 1, .object RX2)]
def gIsN : Cond → Bool
  | .fieldLinkNest .. => true
  | .methodLinkNest .. => true
  | .castable .. => true
  | .declares _ => true
  | _ => false
def gPairs : Nat → Value := fun j => .int (([0, 1, 2, 3, 0, 2, 1, 3, 0, 3, 1, 2] : List Int32).getD j 0)
def xIA : String := "java/lang/IllegalArgumentException"
def xIS : String := "java/lang/IllegalStateException"
def xIO : String := "java/lang/IndexOutOfBoundsException"
def xNS : String := "java/util/NoSuchElementException"
def ncL : List (String × String) := [(xIS, xIA), (xIS, xIO), (xIS, xNS), (xIA, xIO), (xNS, xIO), (xIO, xIA), (xIA, xIS), (xIO, xIS), (xNS, xIS), (xIO, xNS), (xNS, xIA), (xIA, xNS)]
def gSF (G : gG) (U : State) : Prop := (∀ w ∈ tables_1, gIsN w = true → va_Nw w U) ∧ va_K (gD G) vwCl (gTys G) U ∧ (∀ k tx, Cond.stringRef RX6 k tx ∈ tables_1 → vk_R RX6 k tx (gsa G k) U) ∧ (∀ q ∈ ncL, va_Nc q.1 q.2 U) ∧ va_AO RX2 U
def gSH (G : gG) (U : State) (H : Heap) : Prop := vx_Zq Bundle.tN "UNASSIGNED_STACK" Bundle.steD (gA G) U H ∧ vx_Zq Bundle.tN "SUPPRESSED_SENTINEL" Bundle.listD (gA G) U H ∧ va_Z RX6 "PAIRS" "[I" (.ref (gpa G)) (gA G) U H ∧ va_T .int (gpa G) 12 gPairs (gA G) U H ∧ va_X (gsb G) (gsL G) (gsx G) U H ∧ gsb G < H.size ∧ ¬ gA G (gsb G) ∧ gb G ≤ H.size
theorem gNw_warm {w : Cond} {s U : State} (hg : gIsN w = true) (hW : s.WarmedH U.vm) (h : va_Nw w s) : va_Nw w U := by
  cases w <;> first | exact absurd hg (by decide) | exact va_Nw.warmF hW h | exact va_Nw.warmM hW h | exact va_Nw.warmC hW h | exact va_Nw.warmD hW h | (simp [gIsN] at hg; done)
theorem gNw_tab {w : Cond} (hg : gIsN w = true) : w.onTables = true := by
  cases w <;> first | rfl | (simp [gIsN] at hg; done)
theorem gSF.warm {G : gG} {s U : State} (hW : s.WarmedH U.vm) (h : gSF G s) : gSF G U :=
  ⟨fun w hw hg => gNw_warm hg hW (h.1 w hw hg), va_K.moved hW.alike h.2.1, fun k tx hk => vk_R.warm hW (h.2.2.1 k tx hk), fun q hq => va_Nc.moved hW.alike (h.2.2.2.1 q hq), va_AO.moved hW.alike h.2.2.2.2⟩
theorem gSF.same {G : gG} {u U : State} (hv : U.vm = u.vm) (h : gSF G u) : gSF G U :=
  ⟨fun w hw hg => va_Nw.same (gNw_tab hg) hv.symm (h.1 w hw hg), va_K.moved (by rw [hv]; exact Vm.Alike.refl _) h.2.1, fun k tx hk => vk_R.same hv (h.2.2.1 k tx hk), fun q hq => va_Nc.moved (by rw [hv]; exact Vm.Alike.refl _) (h.2.2.2.1 q hq), va_AO.moved (by rw [hv]; exact Vm.Alike.refl _) h.2.2.2.2⟩
theorem gSH.moved {G : gG} {u U : State} {H : Heap} (hvm : u.vm.Alike U.vm) (h : gSH G u H) : gSH G U H := by
  obtain ⟨h1, h2, h3, h4, h5, h6, h7, h8⟩ := h
  exact ⟨vx_Zq.moved hvm h1, vx_Zq.moved hvm h2, va_Z.moved hvm h3, va_T.moved hvm h4, va_X.moved hvm h5, h6, h7, h8⟩
theorem gSH.kept {G : gG} {U : State} {H H1 : Heap} (h : gSH G U H) (hz : H.size ≤ H1.size) (hq : ∀ a : Nat, a < H.size → ¬ gA G a → H1[a]? = H[a]?) : gSH G U H1 := by
  obtain ⟨h1, h2, h3, h4, h5, h6, h7, h8⟩ := h
  exact ⟨vx_Zq.kept h1 hq, vx_Zq.kept h2 hq, va_Z.kept h3 hq, va_T.kept h4 hq, va_X.kept h5 (hq _ h6 h7), by omega, h7, by omega⟩
/-- a method's start: the tables' facts, the statics', the world -/
def gPre (G : gG) (ws : va_W) : State → Prop := fun U => gSF G U ∧ gSH G U U.heap ∧ va_P (gD G) vwCl ws U.heap ∧ va_D (gA G) ws
def gQ (G : gG) (post : Option Value → va_W → Prop) : Array Value → State → Outcome → State → Prop := fun _ st o t => (∃ (v : Option Value) (w : va_W), o = .returned v ∧ post v w ∧ va_P (gD G) vwCl w t.heap ∧ va_D (gA G) w) ∧ va_F (gA G) st t
def gX (G : gG) (px : String → va_W → Prop) : String → State → State → Prop := fun E st t => (∃ w : va_W, px E w ∧ va_P (gD G) vwCl w t.heap ∧ va_D (gA G) w) ∧ va_F (gA G) st t
def gWds : List Cond := lw_tbl.filter goodWord
def gHd (M : mT) (cc : ByteArray) : Cond := match mH M with
  | [] => .code (mY M) cc (mN M) (mR M)
  | _ :: _ => .codeWith (mY M) cc (mN M) (mR M) (mH M)
/-- a contract: from the world ws, with these arguments, it returns with post, or throws with px -/
def CT (G : gG) (M : mT) (cc : ByteArray) (rm : Room) (args : List Value) (ws : va_W) (post : Option Value → va_W → Prop) (px : String → va_W → Prop) : Prop :=
  vx_Met (gl G) (mY M) (gHd M cc :: gWds) rm (va_Pc args (gPre G ws)) (gQ G post) (gX G px) rm.cells rm.slots (gA G)
theorem gPre.blind {G : gG} {args : List Value} {ws : va_W} : FrameBlind (va_Pc args (gPre G ws)) := by
  intro a U g mk h
  obtain ⟨h0, h1, h2, h3, h4⟩ := h
  exact ⟨h0, gSF.same (u := U) (U := U.calling g mk a) rfl h1, gSH.moved (u := U) (U := U.calling g mk a) (Vm.Alike.refl U.vm) h2, h3, h4⟩
/-- the locals: those that are known, by their places -/
def gL (L : List (Option Value)) (nL : Nat) (ls : Array Slot) : Prop := ls.size = nL ∧ lv_wf ls ∧ ∀ (i : Nat) (v : Value), L[i]? = some (some v) → v.category = 1 ∧ ls[i]? = some (.val v)
def gAs (L : List (Option Value)) : List (Nat × Value) := (List.range L.length).filterMap (fun j => match L[j]? with
  | some (some v) => some (j, v)
  | _ => none)
theorem gAs_mem {L : List (Option Value)} {q : Nat × Value} : q ∈ gAs L ↔ L[q.1]? = some (some q.2) := by
  obtain ⟨j, v⟩ := q
  simp only [gAs, List.mem_filterMap, List.mem_range]
  constructor
  · rintro ⟨a, ha, h⟩
    split at h
    · rename_i w hw
      cases h
      exact hw
    · cases h
  · intro h
    have h' : L[j]? = some (some v) := h
    exact ⟨j, (List.getElem?_eq_some_iff.mp h').1, by rw [h']⟩
theorem gL.has {L : List (Option Value)} {nL : Nat} {ls : Array Slot} (h : gL L nL ls) : lv_has ls nL (gAs L) := ⟨h.1, h.2.1, fun q hq => (h.2.2 q.1 q.2 (gAs_mem.mp hq)).2⟩
theorem gL.st {L : List (Option Value)} {nL i : Nat} {v : Value} {ls ls' : Array Slot} (h : gL L nL ls) (hc : v.category = 1) (h' : lv_has ls' nL ((i, v) :: (gAs L).filter (fun q => !(q.1 == i) && !(q.1 + 1 == i && q.2.category == 2)))) : gL (L.set i (some v)) nL ls' := by
  refine ⟨h'.1, h'.2.1, fun j w hj => ?_⟩
  by_cases hji : j = i
  · subst hji
    have hl : j < L.length := by
      have h2 := (List.getElem?_eq_some_iff.mp hj).1
      rwa [List.length_set] at h2
    rw [List.getElem?_set_self hl] at hj
    cases hj
    exact ⟨hc, h'.2.2 (j, v) List.mem_cons_self⟩
  · rw [List.getElem?_set_ne (Ne.symm hji)] at hj
    have h1 := h.2.2 j w hj
    refine ⟨h1.1, h'.2.2 (j, w) (List.mem_cons_of_mem _ (List.mem_filter.mpr ⟨gAs_mem.mpr hj, ?_⟩))⟩
    have e1 : (j == i) = false := by simp [hji]
    have e2 : (w.category == 2) = false := by rw [h1.1]; rfl
    show (!(j == i) && !(j + 1 == i && w.category == 2)) = true
    rw [e1, e2]
    simp
def gFix (G : gG) (M : mT) (cc : ByteArray) (p : Program) (s : State) (m : MethodId) (args : Array Value) (meth : Method) (c : Code) : Prop :=
  p.tables.exec = Jvm.exec ∧ c.code = cc ∧ meth.sig.returnType = mR M ∧ c.maxLocals = mN M ∧ s.vm.findClass (mO M) = some m.cls ∧ (∀ w ∈ gWds, w.before args s = true) ∧ meth.locks = false ∧ c.exceptionTable.toList = tableOf (mH M) ∧ meth.name = M.2.1 ∧ gSF G s ∧ gSH G s s.heap
/-- the frame at pc with locals L and operands st, in the world ws, comes to QF -/
def RW (G : gG) (M : mT) (cc : ByteArray) (rm : Room) (QF : Array Value → State → List Frame → State → Prop) (pc : Nat) (L : List (Option Value)) (st : List Value) (ws : va_W) (cells slots : Nat) : Prop :=
  ∀ (p : Program) (e : Env) (s : State) (m : MethodId) (args : Array Value) (below : List Frame) (meth : Method) (c : Code) (H : Heap) (locs : List Loc) (ls : Array Slot),
    gFix G M cc p s m args meth c → va_P (gD G) vwCl ws H → va_D (gA G) ws → va_S (gA G) s.heap H locs → gL L (mN M) ls →
    W p (gl G) e rm s m args below meth c H locs cells slots (QF args s below) (F0 m pc ls st)
abbrev gQF (G : gG) (post : Option Value → va_W → Prop) (px : String → va_W → Prop) (rm : Room) : Array Value → State → List Frame → State → Prop :=
  fun args s below => vx_MQ below (gQ G post) (gX G px) args s rm.cells rm.slots (gA G)
theorem gWd {w : Cond} {args : Array Value} {s : State} (hts : ∀ w ∈ gWds, w.before args s = true) (hm : w ∈ lw_tbl) (hg : goodWord w = true) : w.before args s = true := hts w (List.mem_filter.mpr ⟨hm, hg⟩)
theorem gTb {w : Cond} (h : w ∈ tables_1) : w ∈ lw_tbl := List.mem_append_right _ h
theorem gSl {y : MethodName} {n : Nat} (h : (y, n) ∈ lw_privs) : Cond.selects y.cls y y ∈ lw_tbl := List.mem_append_left _ (List.mem_map.mpr ⟨(y, n), h, rfl⟩)
theorem gA_new {G : gG} {s : State} (h : gSH G s s.heap) : ∀ q, s.heap.size ≤ q → gA G q := fun _ hq => Nat.le_trans h.2.2.2.2.2.2.2 hq
section gRows
variable {G : gG} {M : mT} {cc : ByteArray} {rm : Room} {QF : Array Value → State → List Frame → State → Prop} {pc : Nat} {L : List (Option Value)} {st : List Value} {ws : va_W} {cells slots : Nat}
theorem RW.widen {k n : Nat} (h1 : cells ≤ k) (h2 : slots ≤ n) (kk : RW G M cc rm QF pc L st ws k n) : RW G M cc rm QF pc L st ws cells slots := by
  intro p e s m args below meth c H locs ls hF hP hD hS hL
  exact W.widen h1 h2 (kk p e s m args below meth c H locs ls hF hP hD hS hL)
theorem rIconst {n : Int} {v : Int32} (hd : decode cc pc = .ok (.iconst n, 1)) (hv : Int32.ofInt n = v) (k : RW G M cc rm QF (pc + 1) L (.int v :: st) ws cells slots) : RW G M cc rm QF pc L st ws cells slots := by
  intro p e s m args below meth c H locs ls hF hP hD hS hL
  exact lv_iconst hF.1 hF.2.1 hd hv (k p e s m args below meth c H locs ls hF hP hD hS hL)
theorem rBipush {n : Int} {v : Int32} (hd : decode cc pc = .ok (.bipush n, 2)) (hv : (Int8.ofInt n).toInt32 = v) (k : RW G M cc rm QF (pc + 2) L (.int v :: st) ws cells slots) : RW G M cc rm QF pc L st ws cells slots := by
  intro p e s m args below meth c H locs ls hF hP hD hS hL
  exact lv_bipush hF.1 hF.2.1 hd hv (k p e s m args below meth c H locs ls hF hP hD hS hL)
theorem rSipush {n : Int} {v : Int32} (hd : decode cc pc = .ok (.sipush n, 3)) (hv : (Int16.ofInt n).toInt32 = v) (k : RW G M cc rm QF (pc + 3) L (.int v :: st) ws cells slots) : RW G M cc rm QF pc L st ws cells slots := by
  intro p e s m args below meth c H locs ls hF hP hD hS hL
  exact lv_sipush hF.1 hF.2.1 hd hv (k p e s m args below meth c H locs ls hF hP hD hS hL)
theorem rLconst {n : Fin 2} {v : Int64} (hd : decode cc pc = .ok (.lconst n, 1)) (hv : Int64.ofNat (n : Nat) = v) (k : RW G M cc rm QF (pc + 1) L (.long v :: st) ws cells slots) : RW G M cc rm QF pc L st ws cells slots := by
  intro p e s m args below meth c H locs ls hF hP hD hS hL
  exact lv_lconst hF.1 hF.2.1 hd hv (k p e s m args below meth c H locs ls hF hP hD hS hL)
theorem rIload {i : Nat} {x : Int32} (hd : decode cc pc = .ok (.iload i, 2)) (hl : L[i]? = some (some (.int x))) (k : RW G M cc rm QF (pc + 2) L (.int x :: st) ws cells slots) : RW G M cc rm QF pc L st ws cells slots := by
  intro p e s m args below meth c H locs ls hF hP hD hS hL
  exact lv_iload hF.1 hF.2.1 hd (hL.2.2 i _ hl).2 (k p e s m args below meth c H locs ls hF hP hD hS hL)
theorem rIload_n {i : Fin 4} {x : Int32} (hd : decode cc pc = .ok (.iload_n i, 1)) (hl : L[i.1]? = some (some (.int x))) (k : RW G M cc rm QF (pc + 1) L (.int x :: st) ws cells slots) : RW G M cc rm QF pc L st ws cells slots := by
  intro p e s m args below meth c H locs ls hF hP hD hS hL
  exact lv_iload_n hF.1 hF.2.1 hd rfl (hL.2.2 i.1 _ hl).2 (k p e s m args below meth c H locs ls hF hP hD hS hL)
theorem rAload {i x : Nat} (hd : decode cc pc = .ok (.aload i, 2)) (hl : L[i]? = some (some (.ref x))) (k : RW G M cc rm QF (pc + 2) L (.ref x :: st) ws cells slots) : RW G M cc rm QF pc L st ws cells slots := by
  intro p e s m args below meth c H locs ls hF hP hD hS hL
  exact lv_aload hF.1 hF.2.1 hd (hL.2.2 i _ hl).2 (k p e s m args below meth c H locs ls hF hP hD hS hL)
theorem rAload_n {i : Fin 4} {x : Nat} (hd : decode cc pc = .ok (.aload_n i, 1)) (hl : L[i.1]? = some (some (.ref x))) (k : RW G M cc rm QF (pc + 1) L (.ref x :: st) ws cells slots) : RW G M cc rm QF pc L st ws cells slots := by
  intro p e s m args below meth c H locs ls hF hP hD hS hL
  exact lv_aload_n hF.1 hF.2.1 hd rfl (hL.2.2 i.1 _ hl).2 (k p e s m args below meth c H locs ls hF hP hD hS hL)
theorem rIstore {i : Nat} {x : Int32} (hd : decode cc pc = .ok (.istore i, 2)) (hi : i < mN M) (k : RW G M cc rm QF (pc + 2) (L.set i (some (.int x))) st ws cells slots) : RW G M cc rm QF pc L (.int x :: st) ws cells slots := by
  intro p e s m args below meth c H locs ls hF hP hD hS hL
  exact lv_istore hF.1 hF.2.1 hd hL.has hi rfl (fun ls' h' => k p e s m args below meth c H locs ls' hF hP hD hS (hL.st rfl h'))
theorem rIstore_n {i : Fin 4} {x : Int32} (hd : decode cc pc = .ok (.istore_n i, 1)) (hi : i.1 < mN M) (k : RW G M cc rm QF (pc + 1) (L.set i.1 (some (.int x))) st ws cells slots) : RW G M cc rm QF pc L (.int x :: st) ws cells slots := by
  intro p e s m args below meth c H locs ls hF hP hD hS hL
  exact lv_istore_n hF.1 hF.2.1 hd rfl hL.has hi rfl (fun ls' h' => k p e s m args below meth c H locs ls' hF hP hD hS (hL.st rfl h'))
theorem rAstore {i x : Nat} (hd : decode cc pc = .ok (.astore i, 2)) (hi : i < mN M) (k : RW G M cc rm QF (pc + 2) (L.set i (some (.ref x))) st ws cells slots) : RW G M cc rm QF pc L (.ref x :: st) ws cells slots := by
  intro p e s m args below meth c H locs ls hF hP hD hS hL
  exact lv_astore hF.1 hF.2.1 hd hL.has hi rfl (fun ls' h' => k p e s m args below meth c H locs ls' hF hP hD hS (hL.st rfl h'))
theorem rAstore_n {i : Fin 4} {x : Nat} (hd : decode cc pc = .ok (.astore_n i, 1)) (hi : i.1 < mN M) (k : RW G M cc rm QF (pc + 1) (L.set i.1 (some (.ref x))) st ws cells slots) : RW G M cc rm QF pc L (.ref x :: st) ws cells slots := by
  intro p e s m args below meth c H locs ls hF hP hD hS hL
  exact lv_astore_n hF.1 hF.2.1 hd rfl hL.has hi rfl (fun ls' h' => k p e s m args below meth c H locs ls' hF hP hD hS (hL.st rfl h'))
theorem rIinc {i : Nat} {n : Int} {x v : Int32} (hd : decode cc pc = .ok (.iinc i n, 3)) (hl : L[i]? = some (some (.int x))) (hv : x + Int32.ofInt n = v) (hi : i < mN M) (k : RW G M cc rm QF (pc + 3) (L.set i (some (.int v))) st ws cells slots) : RW G M cc rm QF pc L st ws cells slots := by
  intro p e s m args below meth c H locs ls hF hP hD hS hL
  obtain ⟨j, hj⟩ := List.getElem?_of_mem (gAs_mem (q := (i, Value.int x)).mpr hl)
  exact lv_iinc hF.1 hF.2.1 hd hL.has hj hv hi rfl (fun ls' h' => k p e s m args below meth c H locs ls' hF hP hD hS (hL.st rfl h'))
theorem rDup {v : Value} (hd : decode cc pc = .ok (.dup, 1)) (hc : v.category = 1) (k : RW G M cc rm QF (pc + 1) L (v :: v :: st) ws cells slots) : RW G M cc rm QF pc L (v :: st) ws cells slots := by
  intro p e s m args below meth c H locs ls hF hP hD hS hL
  exact lv_dup hF.1 hF.2.1 hd hc (k p e s m args below meth c H locs ls hF hP hD hS hL)
theorem rIadd {x y : Int32} (hd : decode cc pc = .ok (.iadd, 1)) (k : RW G M cc rm QF (pc + 1) L (.int (x + y) :: st) ws cells slots) : RW G M cc rm QF pc L (.int y :: .int x :: st) ws cells slots := by
  intro p e s m args below meth c H locs ls hF hP hD hS hL
  exact lv_iadd hF.1 hF.2.1 hd (k p e s m args below meth c H locs ls hF hP hD hS hL)
theorem rIsub {x y : Int32} (hd : decode cc pc = .ok (.isub, 1)) (k : RW G M cc rm QF (pc + 1) L (.int (x - y) :: st) ws cells slots) : RW G M cc rm QF pc L (.int y :: .int x :: st) ws cells slots := by
  intro p e s m args below meth c H locs ls hF hP hD hS hL
  exact lv_isub hF.1 hF.2.1 hd (k p e s m args below meth c H locs ls hF hP hD hS hL)
theorem rImul {x y : Int32} (hd : decode cc pc = .ok (.imul, 1)) (k : RW G M cc rm QF (pc + 1) L (.int (x * y) :: st) ws cells slots) : RW G M cc rm QF pc L (.int y :: .int x :: st) ws cells slots := by
  intro p e s m args below meth c H locs ls hF hP hD hS hL
  exact lv_imul hF.1 hF.2.1 hd (k p e s m args below meth c H locs ls hF hP hD hS hL)
theorem rIdiv {x y : Int32} (hd : decode cc pc = .ok (.idiv, 1)) (h0 : ¬ y = 0) (k : RW G M cc rm QF (pc + 1) L (.int (x / y) :: st) ws cells slots) : RW G M cc rm QF pc L (.int y :: .int x :: st) ws cells slots := by
  intro p e s m args below meth c H locs ls hF hP hD hS hL
  exact lv_idiv hF.1 hF.2.1 hd h0 (k p e s m args below meth c H locs ls hF hP hD hS hL)
theorem rIrem {x y : Int32} (hd : decode cc pc = .ok (.irem, 1)) (h0 : ¬ y = 0) (k : RW G M cc rm QF (pc + 1) L (.int (x - x / y * y) :: st) ws cells slots) : RW G M cc rm QF pc L (.int y :: .int x :: st) ws cells slots := by
  intro p e s m args below meth c H locs ls hF hP hD hS hL
  exact lv_irem hF.1 hF.2.1 hd h0 (k p e s m args below meth c H locs ls hF hP hD hS hL)
theorem rIneg {x : Int32} (hd : decode cc pc = .ok (.ineg, 1)) (k : RW G M cc rm QF (pc + 1) L (.int (-x) :: st) ws cells slots) : RW G M cc rm QF pc L (.int x :: st) ws cells slots := by
  intro p e s m args below meth c H locs ls hF hP hD hS hL
  exact lv_ineg hF.1 hF.2.1 hd (k p e s m args below meth c H locs ls hF hP hD hS hL)
theorem rIand {x y : Int32} (hd : decode cc pc = .ok (.iand, 1)) (k : RW G M cc rm QF (pc + 1) L (.int (x &&& y) :: st) ws cells slots) : RW G M cc rm QF pc L (.int y :: .int x :: st) ws cells slots := by
  intro p e s m args below meth c H locs ls hF hP hD hS hL
  exact lv_iand hF.1 hF.2.1 hd (k p e s m args below meth c H locs ls hF hP hD hS hL)
theorem rIshr {x y : Int32} (hd : decode cc pc = .ok (.ishr, 1)) (k : RW G M cc rm QF (pc + 1) L (.int (x >>> (y &&& 31)) :: st) ws cells slots) : RW G M cc rm QF pc L (.int y :: .int x :: st) ws cells slots := by
  intro p e s m args below meth c H locs ls hF hP hD hS hL
  exact lv_ishr hF.1 hF.2.1 hd (k p e s m args below meth c H locs ls hF hP hD hS hL)
theorem rLdc {i : Nat} {v : Int32} (hd : decode cc pc = .ok (.ldc i, 2)) (hc : Cond.constant (mO M) i v ∈ gWds) (k : RW G M cc rm QF (pc + 2) L (.int v :: st) ws cells slots) : RW G M cc rm QF pc L st ws cells slots := by
  intro p e s m args below meth c H locs ls hF hP hD hS hL
  exact lv_ldc hF.1 hF.2.1 hF.2.2.2.2.1 (hF.2.2.2.2.2.1 _ hc) hd (k p e s m args below meth c H locs ls hF hP hD hS hL)
theorem rI2l {x : Int32} (hd : decode cc pc = .ok (.i2l, 1)) (k : RW G M cc rm QF (pc + 1) L (.long x.toInt64 :: st) ws cells slots) : RW G M cc rm QF pc L (.int x :: st) ws cells slots := by
  intro p e s m args below meth c H locs ls hF hP hD hS hL
  exact lv_i2l hF.1 hF.2.1 hd rfl (k p e s m args below meth c H locs ls hF hP hD hS hL)
theorem rLcmp {x y : Int64} (hd : decode cc pc = .ok (.lcmp, 1)) (k : RW G M cc rm QF (pc + 1) L (.int (lg_cmp x y) :: st) ws cells slots) : RW G M cc rm QF pc L (.long y :: .long x :: st) ws cells slots := by
  intro p e s m args below meth c H locs ls hF hP hD hS hL
  exact W.lcmp hF.1 hF.2.1 hd (k p e s m args below meth c H locs ls hF hP hD hS hL)
theorem rGoto {off : Int} {tgt : Nat} (hd : decode cc pc = .ok (.goto off, 3)) (ht : (pc : Int) + off = (tgt : Int)) (k : RW G M cc rm QF tgt L st ws cells slots) : RW G M cc rm QF pc L st ws cells slots := by
  intro p e s m args below meth c H locs ls hF hP hD hS hL
  exact lv_goto hF.1 hF.2.1 hd ht (k p e s m args below meth c H locs ls hF hP hD hS hL)
end gRows
section gBranches
variable {G : gG} {M : mT} {cc : ByteArray} {rm : Room} {QF : Array Value → State → List Frame → State → Prop} {pc : Nat} {L : List (Option Value)} {st : List Value} {ws : va_W} {cells slots : Nat}
theorem r_if_eq {x : Int32} {off : Int} {tgt : Nat} (hd : decode cc pc = .ok (.ifCond .eq off, 3)) (ht : (pc : Int) + off = (tgt : Int)) (kt : x = 0 → RW G M cc rm QF tgt L st ws cells slots) (kf : ¬ x = 0 → RW G M cc rm QF (pc + 3) L st ws cells slots) : RW G M cc rm QF pc L (.int x :: st) ws cells slots := by
  intro p e s m args below meth c H locs ls hF hP hD hS hL
  exact lv_if_eq hF.1 hF.2.1 hd ht (fun h => kt h p e s m args below meth c H locs ls hF hP hD hS hL) (fun h => kf h p e s m args below meth c H locs ls hF hP hD hS hL)
theorem r_icmp_eq {x y : Int32} {off : Int} {tgt : Nat} (hd : decode cc pc = .ok (.if_icmp .eq off, 3)) (ht : (pc : Int) + off = (tgt : Int)) (kt : x = y → RW G M cc rm QF tgt L st ws cells slots) (kf : ¬ x = y → RW G M cc rm QF (pc + 3) L st ws cells slots) : RW G M cc rm QF pc L (.int y :: .int x :: st) ws cells slots := by
  intro p e s m args below meth c H locs ls hF hP hD hS hL
  exact lv_icmp_eq hF.1 hF.2.1 hd ht (fun h => kt h p e s m args below meth c H locs ls hF hP hD hS hL) (fun h => kf h p e s m args below meth c H locs ls hF hP hD hS hL)
theorem r_if_ne {x : Int32} {off : Int} {tgt : Nat} (hd : decode cc pc = .ok (.ifCond .ne off, 3)) (ht : (pc : Int) + off = (tgt : Int)) (kt : ¬ x = 0 → RW G M cc rm QF tgt L st ws cells slots) (kf : x = 0 → RW G M cc rm QF (pc + 3) L st ws cells slots) : RW G M cc rm QF pc L (.int x :: st) ws cells slots := by
  intro p e s m args below meth c H locs ls hF hP hD hS hL
  exact lv_if_ne hF.1 hF.2.1 hd ht (fun h => kt h p e s m args below meth c H locs ls hF hP hD hS hL) (fun h => kf h p e s m args below meth c H locs ls hF hP hD hS hL)
theorem r_icmp_ne {x y : Int32} {off : Int} {tgt : Nat} (hd : decode cc pc = .ok (.if_icmp .ne off, 3)) (ht : (pc : Int) + off = (tgt : Int)) (kt : ¬ x = y → RW G M cc rm QF tgt L st ws cells slots) (kf : x = y → RW G M cc rm QF (pc + 3) L st ws cells slots) : RW G M cc rm QF pc L (.int y :: .int x :: st) ws cells slots := by
  intro p e s m args below meth c H locs ls hF hP hD hS hL
  exact lv_icmp_ne hF.1 hF.2.1 hd ht (fun h => kt h p e s m args below meth c H locs ls hF hP hD hS hL) (fun h => kf h p e s m args below meth c H locs ls hF hP hD hS hL)
theorem r_if_lt {x : Int32} {off : Int} {tgt : Nat} (hd : decode cc pc = .ok (.ifCond .lt off, 3)) (ht : (pc : Int) + off = (tgt : Int)) (kt : x < 0 → RW G M cc rm QF tgt L st ws cells slots) (kf : ¬ x < 0 → RW G M cc rm QF (pc + 3) L st ws cells slots) : RW G M cc rm QF pc L (.int x :: st) ws cells slots := by
  intro p e s m args below meth c H locs ls hF hP hD hS hL
  exact lv_if_lt hF.1 hF.2.1 hd ht (fun h => kt h p e s m args below meth c H locs ls hF hP hD hS hL) (fun h => kf h p e s m args below meth c H locs ls hF hP hD hS hL)
theorem r_icmp_lt {x y : Int32} {off : Int} {tgt : Nat} (hd : decode cc pc = .ok (.if_icmp .lt off, 3)) (ht : (pc : Int) + off = (tgt : Int)) (kt : x < y → RW G M cc rm QF tgt L st ws cells slots) (kf : ¬ x < y → RW G M cc rm QF (pc + 3) L st ws cells slots) : RW G M cc rm QF pc L (.int y :: .int x :: st) ws cells slots := by
  intro p e s m args below meth c H locs ls hF hP hD hS hL
  exact lv_icmp_lt hF.1 hF.2.1 hd ht (fun h => kt h p e s m args below meth c H locs ls hF hP hD hS hL) (fun h => kf h p e s m args below meth c H locs ls hF hP hD hS hL)
theorem r_if_ge {x : Int32} {off : Int} {tgt : Nat} (hd : decode cc pc = .ok (.ifCond .ge off, 3)) (ht : (pc : Int) + off = (tgt : Int)) (kt : 0 ≤ x → RW G M cc rm QF tgt L st ws cells slots) (kf : ¬ 0 ≤ x → RW G M cc rm QF (pc + 3) L st ws cells slots) : RW G M cc rm QF pc L (.int x :: st) ws cells slots := by
  intro p e s m args below meth c H locs ls hF hP hD hS hL
  exact lv_if_ge hF.1 hF.2.1 hd ht (fun h => kt h p e s m args below meth c H locs ls hF hP hD hS hL) (fun h => kf h p e s m args below meth c H locs ls hF hP hD hS hL)
theorem r_icmp_ge {x y : Int32} {off : Int} {tgt : Nat} (hd : decode cc pc = .ok (.if_icmp .ge off, 3)) (ht : (pc : Int) + off = (tgt : Int)) (kt : y ≤ x → RW G M cc rm QF tgt L st ws cells slots) (kf : ¬ y ≤ x → RW G M cc rm QF (pc + 3) L st ws cells slots) : RW G M cc rm QF pc L (.int y :: .int x :: st) ws cells slots := by
  intro p e s m args below meth c H locs ls hF hP hD hS hL
  exact lv_icmp_ge hF.1 hF.2.1 hd ht (fun h => kt h p e s m args below meth c H locs ls hF hP hD hS hL) (fun h => kf h p e s m args below meth c H locs ls hF hP hD hS hL)
theorem r_if_gt {x : Int32} {off : Int} {tgt : Nat} (hd : decode cc pc = .ok (.ifCond .gt off, 3)) (ht : (pc : Int) + off = (tgt : Int)) (kt : 0 < x → RW G M cc rm QF tgt L st ws cells slots) (kf : ¬ 0 < x → RW G M cc rm QF (pc + 3) L st ws cells slots) : RW G M cc rm QF pc L (.int x :: st) ws cells slots := by
  intro p e s m args below meth c H locs ls hF hP hD hS hL
  exact lv_if_gt hF.1 hF.2.1 hd ht (fun h => kt h p e s m args below meth c H locs ls hF hP hD hS hL) (fun h => kf h p e s m args below meth c H locs ls hF hP hD hS hL)
theorem r_icmp_gt {x y : Int32} {off : Int} {tgt : Nat} (hd : decode cc pc = .ok (.if_icmp .gt off, 3)) (ht : (pc : Int) + off = (tgt : Int)) (kt : y < x → RW G M cc rm QF tgt L st ws cells slots) (kf : ¬ y < x → RW G M cc rm QF (pc + 3) L st ws cells slots) : RW G M cc rm QF pc L (.int y :: .int x :: st) ws cells slots := by
  intro p e s m args below meth c H locs ls hF hP hD hS hL
  exact lv_icmp_gt hF.1 hF.2.1 hd ht (fun h => kt h p e s m args below meth c H locs ls hF hP hD hS hL) (fun h => kf h p e s m args below meth c H locs ls hF hP hD hS hL)
theorem r_if_le {x : Int32} {off : Int} {tgt : Nat} (hd : decode cc pc = .ok (.ifCond .le off, 3)) (ht : (pc : Int) + off = (tgt : Int)) (kt : x ≤ 0 → RW G M cc rm QF tgt L st ws cells slots) (kf : ¬ x ≤ 0 → RW G M cc rm QF (pc + 3) L st ws cells slots) : RW G M cc rm QF pc L (.int x :: st) ws cells slots := by
  intro p e s m args below meth c H locs ls hF hP hD hS hL
  exact lv_if_le hF.1 hF.2.1 hd ht (fun h => kt h p e s m args below meth c H locs ls hF hP hD hS hL) (fun h => kf h p e s m args below meth c H locs ls hF hP hD hS hL)
theorem r_icmp_le {x y : Int32} {off : Int} {tgt : Nat} (hd : decode cc pc = .ok (.if_icmp .le off, 3)) (ht : (pc : Int) + off = (tgt : Int)) (kt : x ≤ y → RW G M cc rm QF tgt L st ws cells slots) (kf : ¬ x ≤ y → RW G M cc rm QF (pc + 3) L st ws cells slots) : RW G M cc rm QF pc L (.int y :: .int x :: st) ws cells slots := by
  intro p e s m args below meth c H locs ls hF hP hD hS hL
  exact lv_icmp_le hF.1 hF.2.1 hd ht (fun h => kt h p e s m args below meth c H locs ls hF hP hD hS hL) (fun h => kf h p e s m args below meth c H locs ls hF hP hD hS hL)
theorem rDup2 {a b : Value} (hd : decode cc pc = .ok (.dup2, 1)) (ha : a.category = 1) (hb : b.category = 1) (k : RW G M cc rm QF (pc + 1) L (a :: b :: a :: b :: st) ws cells slots) : RW G M cc rm QF pc L (a :: b :: st) ws cells slots := by
  intro p e s m args below meth c H locs ls hF hP hD hS hL
  exact lv_dup2_11 hF.1 hF.2.1 hd ha hb (k p e s m args below meth c H locs ls hF hP hD hS hL)
theorem rTabOut {dflt lo hi : Int} {offs : Array Int} {len : Nat} {x : Int32} {tgt : Nat} (hd : decode cc pc = .ok (.tableswitch dflt lo hi offs, len)) (h : x.toInt < lo ∨ hi < x.toInt) (ht : (pc : Int) + dflt = (tgt : Int)) (k : RW G M cc rm QF tgt L st ws cells slots) : RW G M cc rm QF pc L (.int x :: st) ws cells slots := by
  intro p e s m args below meth c H locs ls hF hP hD hS hL
  exact lv_tableOut hF.1 hF.2.1 hd h ht (k p e s m args below meth c H locs ls hF hP hD hS hL)
theorem rTabIn {dflt lo hi : Int} {offs : Array Int} {len : Nat} {x : Int32} {off : Int} {tgt : Nat} (hd : decode cc pc = .ok (.tableswitch dflt lo hi offs, len)) (h1 : ¬ x.toInt < lo) (h2 : ¬ hi < x.toInt) (ho : offs[(x.toInt - lo).toNat]? = some off) (ht : (pc : Int) + off = (tgt : Int)) (k : RW G M cc rm QF tgt L st ws cells slots) : RW G M cc rm QF pc L (.int x :: st) ws cells slots := by
  intro p e s m args below meth c H locs ls hF hP hD hS hL
  exact lv_tableIn hF.1 hF.2.1 hd h1 h2 ho ht (k p e s m args below meth c H locs ls hF hP hD hS hL)
end gBranches
/-- a field's entry in the class own's pool: the k-th field of the class of number ci -/
def fLk (own : String) (idx ci k : Nat) (C : String) (T : u_T) (N : Nat) : Prop := vwCl[ci]? = some (C, T, N) ∧ k < N ∧ (∀ w ∈ u_ws C T N, w ∈ gWds) ∧ (Cond.fieldLink own idx (T k).1 (T k).2.1 (T k).2.2.1 ∈ gWds ∨ ∃ host : String, Cond.fieldLinkNest own idx (T k).1 (T k).2.1 (T k).2.2.1 host ∈ tables_1)
/-- a class's fields: their types, their names apart -/
def fTy (C : String) (T : u_T) (N : Nat) (ty : Nat → FieldType) : Prop := (∀ k, k < N → parseFieldDescriptor (T k).2.2.1 = some (ty k)) ∧ (∀ a, a < N → ∀ b, b < N → a ≠ b → (T a).2.1 ≠ (T b).2.1)
section gHeap
variable {G : gG} {M : mT} {cc : ByteArray} {rm : Room} {QF : Array Value → State → List Frame → State → Prop} {pc : Nat} {L : List (Option Value)} {st : List Value} {ws : va_W} {cells slots : Nat} {a : Nat}
theorem rGet {idx ci k N : Nat} {C : String} {T : u_T} {fs : List Value} {v : Value} (hd : decode cc pc = .ok (.getfield idx, 3)) (hf : fLk (mO M) idx ci k C T N) (q : Nat) (he : ws[q]? = some (a, .inr (ci, fs))) (hv : fs[k]? = some v) (kk : RW G M cc rm QF (pc + 3) L (v :: st) ws cells slots) : RW G M cc rm QF pc L (.ref a :: st) ws cells slots := by
  intro p e s m args below meth c H locs ls hF hP hD hS hL
  obtain ⟨h1, h2, h3, h4, h5, h6, h7, h8, h9, hsf, hsh⟩ := id hF
  obtain ⟨f1, f2, f3, f4⟩ := hf
  rcases f4 with f4 | ⟨host, f4⟩
  · exact va_get h1 h2 (Ts := gWds) h6 f3 h5 hsf.2.1 hP q he f1 k f2 (h6 _ f4) (fun _ h => h) hv hd (kk p e s m args below meth c H locs ls hF hP hD hS hL)
  · exact va_getN h1 h2 (Ts := gWds) h6 f3 h5 hsf.2.1 hP q he f1 k f2 (va_Nw.use rfl (hsf.1 _ f4 rfl)) (fun _ h => h) hv hd (kk p e s m args below meth c H locs ls hF hP hD hS hL)
theorem rPut {idx ci k N : Nat} {C : String} {T : u_T} {ty : Nat → FieldType} {fs : List Value} {v : Value} (hd : decode cc pc = .ok (.putfield idx, 3)) (hf : fLk (mO M) idx ci k C T N) (ht : fTy C T N ty) (hfin : (T k).2.2.2 = false) (q : Nat) (he : ws[q]? = some (a, .inr (ci, fs))) (hn : narrow (ty k) v = v) (hfit : fits (ty k) v = true) (hl : k < fs.length) (kk : RW G M cc rm QF (pc + 3) L st (ws.set q (a, .inr (ci, fs.set k v))) cells slots) : RW G M cc rm QF pc L (v :: .ref a :: st) ws cells slots := by
  intro p e s m args below meth c H locs ls hF hP hD hS hL
  obtain ⟨h1, h2, h3, h4, h5, h6, h7, h8, h9, hsf, hsh⟩ := id hF
  obtain ⟨f1, f2, f3, f4⟩ := hf
  rcases f4 with f4 | ⟨host, f4⟩
  · exact va_put h1 h2 (Ts := gWds) h6 f3 ty ht.1 ht.2 h5 hsf.2.1 hP hD hS q he f1 k f2 (h6 _ f4) (fun _ h => h) hfin (ht.1 k f2) hn hfit hl hd (fun H1 locs1 hP1 hD1 hS1 => kk p e s m args below meth c H1 locs1 ls hF hP1 hD1 hS1 hL)
  · exact va_putN h1 h2 (Ts := gWds) h6 f3 ty ht.1 ht.2 h5 hsf.2.1 hP hD hS q he f1 k f2 (va_Nw.use rfl (hsf.1 _ f4 rfl)) (fun _ h => h) hfin (ht.1 k f2) hn hfit hl hd (fun H1 locs1 hP1 hD1 hS1 => kk p e s m args below meth c H1 locs1 ls hF hP1 hD1 hS1 hL)
theorem rPutF {idx ci k N : Nat} {C : String} {T : u_T} {ty : Nat → FieldType} {fs : List Value} {v : Value} (hd : decode cc pc = .ok (.putfield idx, 3)) (hf : fLk (mO M) idx ci k C T N) (hg : Cond.fieldLink (mO M) idx (T k).1 (T k).2.1 (T k).2.2.1 ∈ gWds) (ht : fTy C T N ty) (hfin : (T k).2.2.2 = true) (hnm : M.2.1 = "<init>") (hdc : (T k).1 = mO M) (q : Nat) (he : ws[q]? = some (a, .inr (ci, fs))) (hn : narrow (ty k) v = v) (hfit : fits (ty k) v = true) (hl : k < fs.length) (kk : RW G M cc rm QF (pc + 3) L st (ws.set q (a, .inr (ci, fs.set k v))) cells slots) : RW G M cc rm QF pc L (v :: .ref a :: st) ws cells slots := by
  intro p e s m args below meth c H locs ls hF hP hD hS hL
  obtain ⟨h1, h2, h3, h4, h5, h6, h7, h8, h9, hsf, hsh⟩ := id hF
  obtain ⟨f1, f2, f3, f4⟩ := hf
  exact va_putF h1 h2 (Ts := gWds) h6 f3 ty ht.1 ht.2 h5 hsf.2.1 hP hD hS q he f1 k f2 (h6 _ hg) (fun _ h => h) hfin (h9.trans hnm) hdc (ht.1 k f2) hn hfit hl hd (fun H1 locs1 hP1 hD1 hS1 => kk p e s m args below meth c H1 locs1 ls hF hP1 hD1 hS1 hL)
theorem rIald {n : Nat} {f : Nat → Int32} {i : Int32} (hd : decode cc pc = .ok (.iaload, 1)) (q : Nat) (he : ws[q]? = some (a, .inl (gcy G 0, n, .inl f))) (hi : vp_in i n) (kk : RW G M cc rm QF (pc + 1) L (.int (f i.toNatClampNeg) :: st) ws cells slots) : RW G M cc rm QF pc L (.int i :: .ref a :: st) ws cells slots := by
  intro p e s m args below meth c H locs ls hF hP hD hS hL
  exact va_iald hF.1 hF.2.1 hF.2.2.2.2.2.2.2.2.2.1.2.1 hP q 0 he rfl hi hd (kk p e s m args below meth c H locs ls hF hP hD hS hL)
theorem rAald {n : Nat} {f : Nat → Option Nat} {i : Int32} (hd : decode cc pc = .ok (.aaload, 1)) (q : Nat) (he : ws[q]? = some (a, .inl (gcy G 1, n, .inr (.inr (.inr (.inr f)))))) (hi : vp_in i n) (kk : RW G M cc rm QF (pc + 1) L (va_rf (f i.toNatClampNeg) :: st) ws cells slots) : RW G M cc rm QF pc L (.int i :: .ref a :: st) ws cells slots := by
  intro p e s m args below meth c H locs ls hF hP hD hS hL
  exact va_aldq hF.1 hF.2.1 hF.2.2.2.2.2.2.2.2.2.1.2.1 hP q 1 he rfl hi hd (kk p e s m args below meth c H locs ls hF hP hD hS hL)
theorem rIast {n : Nat} {f : Nat → Int32} {i x : Int32} (hd : decode cc pc = .ok (.iastore, 1)) (q : Nat) (he : ws[q]? = some (a, .inl (gcy G 0, n, .inl f))) (hi : vp_in i n) (kk : RW G M cc rm QF (pc + 1) L st (ws.set q (a, .inl (gcy G 0, n, .inl (upd f i.toNatClampNeg x)))) cells slots) : RW G M cc rm QF pc L (.int x :: .int i :: .ref a :: st) ws cells slots := by
  intro p e s m args below meth c H locs ls hF hP hD hS hL
  exact va_iast hF.1 hF.2.1 hF.2.2.2.2.2.2.2.2.2.1.2.1 hP hD hS q 0 he rfl hi hd (fun H1 locs1 hP1 hD1 hS1 => kk p e s m args below meth c H1 locs1 ls hF hP1 hD1 hS1 hL)
theorem rAast {n ci b : Nat} {f : Nat → Option Nat} {i : Int32} {fs : List Value} {T : u_T} {N : Nat} (hd : decode cc pc = .ok (.aastore, 1)) (q qk : Nat) (he : ws[q]? = some (a, .inl (gcy G 1, n, .inr (.inr (.inr (.inr f)))))) (hv : ws[qk]? = some (b, .inr (ci, fs))) (hc : vwCl[ci]? = some (RX2, T, N)) (hi : vp_in i n) (kk : RW G M cc rm QF (pc + 1) L st (ws.set q (a, .inl (gcy G 1, n, .inr (.inr (.inr (.inr (va_up f i.toNatClampNeg (some b)))))))) cells slots) : RW G M cc rm QF pc L (.ref b :: .int i :: .ref a :: st) ws cells slots := by
  intro p e s m args below meth c H locs ls hF hP hD hS hL
  exact va_astq hF.1 hF.2.1 hF.2.2.2.2.2.2.2.2.2.1.2.1 hP hD hS q 1 qk ci he rfl hv hc hi hd (fun H1 locs1 hP1 hD1 hS1 => kk p e s m args below meth c H1 locs1 ls hF hP1 hD1 hS1 hL)
theorem rAlenI {n : Nat} {f : Nat → Int32} {v : Int32} (hd : decode cc pc = .ok (.arraylength, 1)) (q : Nat) (he : ws[q]? = some (a, .inl (gcy G 0, n, .inl f))) (hv : Int32.ofNat n = v) (kk : RW G M cc rm QF (pc + 1) L (.int v :: st) ws cells slots) : RW G M cc rm QF pc L (.ref a :: st) ws cells slots := by
  intro p e s m args below meth c H locs ls hF hP hD hS hL
  exact va_alen hF.1 hF.2.1 hF.2.2.2.2.2.2.2.2.2.1.2.1 hP q 0 he (ty := .int) rfl hv hd (kk p e s m args below meth c H locs ls hF hP hD hS hL)
theorem rNew {idx ci N : Nat} {C : String} {T : u_T} {ty : Nat → FieldType} {fs : List Value} (hd : decode cc pc = .ok (.new idx, 3)) (hc : vwCl[ci]? = some (C, T, N)) (hin : ∀ w ∈ u_ws C T N, w ∈ gWds) (hcl : Cond.classLink (mO M) idx C ∈ gWds) (hins : Cond.instantiable C N ∈ gWds) (hini : Cond.initialized C ∈ gWds) (ht : fTy C T N ty) (hfs : ∀ j, j < N → defaultValue (ty j) = vp_V fs j) (hcs : cells + 1 ≤ rm.cells) (hsl : slots + N ≤ rm.slots) (kk : ∀ q : Nat, RW G M cc rm QF (pc + 3) L (.ref q :: st) (ws ++ [(q, .inr (ci, fs))]) (cells + 1) (slots + N)) : RW G M cc rm QF pc L st ws cells slots := by
  intro p e s m args below meth c H locs ls hF hP hD hS hL
  obtain ⟨h1, h2, h3, h4, h5, h6, h7, h8, h9, hsf, hsh⟩ := id hF
  exact va_new h1 h2 (Ts := gWds) h6 hin ty ht.1 h5 (h6 _ hcl) (h6 _ hins) (h6 _ hini) hsf.2.1 hP hD hS (gA_new hsh) hc hfs hcs hsl hd (fun q H1 hP1 hD1 hS1 => kk q p e s m args below meth c H1 locs ls hF hP1 hD1 hS1 hL)
theorem gArr1 {G : gG} {s : State} {ws : va_W} {D : va_G} {cl : List vw_C} {cA : ClassId} {ty : FieldType} (t0 : Nat) (h : va_K D cl (gTys G) s) {cB : ClassId} (ht : (gTys G)[t0]? = some (cB, ty)) (h2 : va_K D cl (gTys G ++ [(cA, ty)]) s) : cA = cB := by
  have e1 := (h.2 t0 _ ht).2
  have e2 := (h2.2 2 (cA, ty) rfl).2
  cases ty with
  | object C =>
    obtain ⟨kA, comp, a1, a2, a3, a4⟩ := e1
    obtain ⟨kB, comp2, b1, b2, b3, b4⟩ := e2
    exact Option.some.inj (b4.symm.trans a4)
  | _ => exact Option.some.inj (Eq.trans (Eq.symm e2) e1)
theorem rNewI {n : Int32} {N : Nat} (hd : decode cc pc = .ok (.newarray .int, 2)) (hw : Cond.arrayClass .int ∈ gWds) (hn : ¬ n < 0) (hN : n.toNatClampNeg = N) (hb : N * 4 ≤ 536870912) (hcs : cells + 1 ≤ rm.cells) (hsl : slots + N ≤ rm.slots) (kk : ∀ q : Nat, RW G M cc rm QF (pc + 2) L (.ref q :: st) (ws ++ [(q, .inl (gcy G 0, N, .inl (fun _ => 0)))]) (cells + 1) (slots + N)) : RW G M cc rm QF pc L (.int n :: st) ws cells slots := by
  intro p e s m args below meth c H locs ls hF hP hD hS hL
  obtain ⟨h1, h2, h3, h4, h5, h6, h7, h8, h9, hsf, hsh⟩ := id hF
  refine va_newa (atype := .int) (ty := .int) (a0 := (N, .inl (fun _ => 0))) h1 h2 (h6 _ hw) rfl hsf.2.1 hP hD hS (gA_new hsh) (fun cA => rfl) hn hN hb hcs hsl hd (fun q cA H1 hK1 hP1 hD1 hS1 => ?_)
  have eA : cA = gcy G 0 := gArr1 (ws := ws) 0 hsf.2.1 rfl hK1
  subst eA
  exact kk q p e s m args below meth c H1 locs ls hF hP1 hD1 hS1 hL
theorem rNewP {idx : Nat} {n : Int32} {N : Nat} (hd : decode cc pc = .ok (.anewarray idx, 3)) (hcl : Cond.classLink (mO M) idx RX2 ∈ gWds) (hn : ¬ n < 0) (hN : n.toNatClampNeg = N) (hb : N * 4 ≤ 536870912) (hcs : cells + 1 ≤ rm.cells) (hsl : slots + N ≤ rm.slots) (kk : ∀ q : Nat, RW G M cc rm QF (pc + 3) L (.ref q :: st) (ws ++ [(q, .inl (gcy G 1, N, .inr (.inr (.inr (.inr (fun _ => none))))))]) (cells + 1) (slots + N)) : RW G M cc rm QF pc L (.int n :: st) ws cells slots := by
  intro p e s m args below meth c H locs ls hF hP hD hS hL
  obtain ⟨h1, h2, h3, h4, h5, h6, h7, h8, h9, hsf, hsh⟩ := id hF
  refine va_newq h1 h2 h5 (h6 _ hcl) hsf.2.2.2.2 hsf.2.1 hP hD hS (gA_new hsh) hn hN hb hcs hsl hd (fun q cA H1 hK1 hP1 hD1 hS1 => ?_)
  have eA : cA = gcy G 1 := gArr1 (ws := ws) 1 hsf.2.1 rfl hK1
  subst eA
  exact kk q p e s m args below meth c H1 locs ls hF hP1 hD1 hS1 hL
theorem rGets {idx : Nat} (hd : decode cc pc = .ok (.getstatic idx, 3)) (hlk : Cond.fieldLink (mO M) idx RX6 "PAIRS" "[I" ∈ gWds) (kk : RW G M cc rm QF (pc + 3) L (.ref (gpa G) :: st) ws cells slots) : RW G M cc rm QF pc L st ws cells slots := by
  intro p e s m args below meth c H locs ls hF hP hD hS hL
  obtain ⟨h1, h2, h3, h4, h5, h6, h7, h8, h9, hsf, hsh⟩ := id hF
  exact va_gets h1 h2 hsh.2.2.1 hS h5 (h6 _ hlk) (fun _ h => h) hd (kk p e s m args below meth c H locs ls hF hP hD hS hL)
theorem rTald {i : Int32} {x : Int32} (hd : decode cc pc = .ok (.iaload, 1)) (hi : vp_in i 12) (hv : gPairs i.toNatClampNeg = .int x) (kk : RW G M cc rm QF (pc + 1) L (.int x :: st) ws cells slots) : RW G M cc rm QF pc L (.int i :: .ref (gpa G) :: st) ws cells slots := by
  intro p e s m args below meth c H locs ls hF hP hD hS hL
  obtain ⟨h1, h2, h3, h4, h5, h6, h7, h8, h9, hsf, hsh⟩ := id hF
  exact va_ti h1 h2 hsh.2.2.2.1 hS hi hv hd (kk p e s m args below meth c H locs ls hF hP hD hS hL)
theorem rSld {i : Int32} (hd : decode cc pc = .ok (.iaload, 1)) (hi : vp_in i (gsL G)) (kk : RW G M cc rm QF (pc + 1) L (.int (gsx G i.toNatClampNeg) :: st) ws cells slots) : RW G M cc rm QF pc L (.int i :: .ref (gsb G) :: st) ws cells slots := by
  intro p e s m args below meth c H locs ls hF hP hD hS hL
  obtain ⟨h1, h2, h3, h4, h5, h6, h7, h8, h9, hsf, hsh⟩ := id hF
  exact va_sld h1 h2 hsh.2.2.2.2.1 hsh.2.2.2.2.2.1 hsh.2.2.2.2.2.2.1 hS hi hd (kk p e s m args below meth c H locs ls hF hP hD hS hL)
theorem rSlen (hd : decode cc pc = .ok (.arraylength, 1)) (kk : RW G M cc rm QF (pc + 1) L (.int (Int32.ofNat (gsL G)) :: st) ws cells slots) : RW G M cc rm QF pc L (.ref (gsb G) :: st) ws cells slots := by
  intro p e s m args below meth c H locs ls hF hP hD hS hL
  obtain ⟨h1, h2, h3, h4, h5, h6, h7, h8, h9, hsf, hsh⟩ := id hF
  exact va_slen h1 h2 hsh.2.2.2.2.1 hsh.2.2.2.2.2.1 hsh.2.2.2.2.2.2.1 hS hd (kk p e s m args below meth c H locs ls hF hP hD hS hL)
end gHeap
