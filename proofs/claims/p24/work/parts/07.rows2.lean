/-! contracts by what is answered, and the rows of their calls -/
def CSi (G : gG) (V : wV) (M : mT) (cc : ByteArray) (rm : Room) (args : List Value) (s : sgT) (lo : Nat → Int64) (F : Int32 → sgT → Prop) (g : String → Prop) : Prop := CS G V M cc rm args s lo (fun v s' => ∃ r : Int32, v = some (.int r) ∧ F r s') g
theorem CSi.of {G : gG} {V : wV} {M : mT} {cc : ByteArray} {rm : Room} {vs : List Value} {s : sgT} {lo : Nat → Int64} {F : Int32 → sgT → Prop} {g : String → Prop} {L : List (Option Value)} (hh : mH M = []) (hpl : plainName (mO M) = true) (h1 : vs.all (fun v => v.category == 1) = true) (hn : vs.length ≤ mN M) (hL : gEnt vs (mN M) = L) (k : RW G M cc rm (QS G V s lo (fun v s' => ∃ r : Int32, v = some (.int r) ∧ F r s') g rm) 0 L [] (wS G V s lo) 0 0) : CSi G V M cc rm vs s lo F g := by
  subst hL
  exact CS.of hh hpl (fun v hv => by simpa using (List.all_eq_true.mp h1 v hv)) hn k
def CSv (G : gG) (V : wV) (M : mT) (cc : ByteArray) (rm : Room) (args : List Value) (s : sgT) (lo : Nat → Int64) (F : sgT → Prop) (g : String → Prop) : Prop := CS G V M cc rm args s lo (fun v s' => v = none ∧ F s') g
theorem CSv.of {G : gG} {V : wV} {M : mT} {cc : ByteArray} {rm : Room} {vs : List Value} {s : sgT} {lo : Nat → Int64} {F : sgT → Prop} {g : String → Prop} {L : List (Option Value)} (hh : mH M = []) (hpl : plainName (mO M) = true) (h1 : vs.all (fun v => v.category == 1) = true) (hn : vs.length ≤ mN M) (hL : gEnt vs (mN M) = L) (k : RW G M cc rm (QS G V s lo (fun v s' => v = none ∧ F s') g rm) 0 L [] (wS G V s lo) 0 0) : CSv G V M cc rm vs s lo F g := by
  subst hL
  exact CS.of hh hpl (fun v hv => by simpa using (List.all_eq_true.mp h1 v hv)) hn k
def CSp (G : gG) (V : wV) (M : mT) (cc : ByteArray) (rm : Room) (args : List Value) (s : sgT) (lo : Nat → Int64) (F : Int32 → Prop) (g : String → Prop) : Prop := CS G V M cc rm args s lo (fun v s' => ∃ r : Int32, v = some (.int r) ∧ s' = s ∧ F r) g
theorem CSp.of {G : gG} {V : wV} {M : mT} {cc : ByteArray} {rm : Room} {vs : List Value} {s : sgT} {lo : Nat → Int64} {F : Int32 → Prop} {g : String → Prop} {L : List (Option Value)} (hh : mH M = []) (hpl : plainName (mO M) = true) (h1 : vs.all (fun v => v.category == 1) = true) (hn : vs.length ≤ mN M) (hL : gEnt vs (mN M) = L) (k : RW G M cc rm (QS G V s lo (fun v s' => ∃ r : Int32, v = some (.int r) ∧ s' = s ∧ F r) g rm) 0 L [] (wS G V s lo) 0 0) : CSp G V M cc rm vs s lo F g := by
  subst hL
  exact CS.of hh hpl (fun v hv => by simpa using (List.all_eq_true.mp h1 v hv)) hn k
def CSq (G : gG) (V : wV) (M : mT) (cc : ByteArray) (rm : Room) (args : List Value) (s : sgT) (lo : Nat → Int64) (F : Nat → Prop) (g : String → Prop) : Prop := CS G V M cc rm args s lo (fun v s' => ∃ b : Nat, v = some (.ref (ad V b)) ∧ s' = s ∧ F b) g
theorem CSq.of {G : gG} {V : wV} {M : mT} {cc : ByteArray} {rm : Room} {vs : List Value} {s : sgT} {lo : Nat → Int64} {F : Nat → Prop} {g : String → Prop} {L : List (Option Value)} (hh : mH M = []) (hpl : plainName (mO M) = true) (h1 : vs.all (fun v => v.category == 1) = true) (hn : vs.length ≤ mN M) (hL : gEnt vs (mN M) = L) (k : RW G M cc rm (QS G V s lo (fun v s' => ∃ b : Nat, v = some (.ref (ad V b)) ∧ s' = s ∧ F b) g rm) 0 L [] (wS G V s lo) 0 0) : CSq G V M cc rm vs s lo F g := by
  subst hL
  exact CS.of hh hpl (fun v hv => by simpa using (List.all_eq_true.mp h1 v hv)) hn k
def CSu (G : gG) (V : wV) (M : mT) (cc : ByteArray) (rm : Room) (args : List Value) (s : sgT) (lo : Nat → Int64) (F : Prop) (g : String → Prop) : Prop := CS G V M cc rm args s lo (fun v s' => v = none ∧ s' = s ∧ F) g
theorem CSu.of {G : gG} {V : wV} {M : mT} {cc : ByteArray} {rm : Room} {vs : List Value} {s : sgT} {lo : Nat → Int64} {F : Prop} {g : String → Prop} {L : List (Option Value)} (hh : mH M = []) (hpl : plainName (mO M) = true) (h1 : vs.all (fun v => v.category == 1) = true) (hn : vs.length ≤ mN M) (hL : gEnt vs (mN M) = L) (k : RW G M cc rm (QS G V s lo (fun v s' => v = none ∧ s' = s ∧ F) g rm) 0 L [] (wS G V s lo) 0 0) : CSu G V M cc rm vs s lo F g := by
  subst hL
  exact CS.of hh hpl (fun v hv => by simpa using (List.all_eq_true.mp h1 v hv)) hn k
def CSr (G : gG) (V : wV) (M : mT) (cc : ByteArray) (rm : Room) (args : List Value) (s : sgT) (lo : Nat → Int64) (F : Nat → sgT → Prop) (g : String → Prop) : Prop := CS G V M cc rm args s lo (fun v s' => ∃ b : Nat, v = some (.ref (ad V b)) ∧ F b s') g
theorem CSr.of {G : gG} {V : wV} {M : mT} {cc : ByteArray} {rm : Room} {vs : List Value} {s : sgT} {lo : Nat → Int64} {F : Nat → sgT → Prop} {g : String → Prop} {L : List (Option Value)} (hh : mH M = []) (hpl : plainName (mO M) = true) (h1 : vs.all (fun v => v.category == 1) = true) (hn : vs.length ≤ mN M) (hL : gEnt vs (mN M) = L) (k : RW G M cc rm (QS G V s lo (fun v s' => ∃ b : Nat, v = some (.ref (ad V b)) ∧ F b s') g rm) 0 L [] (wS G V s lo) 0 0) : CSr G V M cc rm vs s lo F g := by
  subst hL
  exact CS.of hh hpl (fun v hv => by simpa using (List.all_eq_true.mp h1 v hv)) hn k
section gC2
variable {G : gG} {V : wV} {M M' : mT} {cc cc' : ByteArray} {rm rm' : Room} {QF : Array Value → State → List Frame → State → Prop} {pc : Nat} {L : List (Option Value)} {st rest : List Value} {s s0 : sgT} {lo : Nat → Int64} {cells slots : Nat} {a idx ci n len N : Nat} {T : u_T} {fl : List (Option Nat)} {As : List Value} {f0 : Option Value → sgT → Prop} {g g0 : String → Prop}
theorem sCallVi {F : Int32 → sgT → Prop} (hd : decode cc pc = .ok (.invokevirtual idx, 3)) (hh : mH M' = []) (hk : mOK M' cc' n) (hi : mInst M') (hlk : lLk (mO M) idx M') (hrm : rmOk rm rm' (mN M')) (ha : shAt V a (ci, len, fl)) (hc8 : ci < 8) (hc : vwCl[ci]? = some (mO M', T, N)) (hn : As.length = n) (hcs : cells + rm'.cells ≤ rm.cells) (hsl : slots + rm'.slots ≤ rm.slots)
    (hM : CSi G V M' cc' rm' (.ref (ad V a) :: As) s lo F (fun _ => False)) (hst : st = As.reverse ++ .ref (ad V a) :: rest) (hrest : (rest.map fun v => v.category).sum ≤ 8)
    (kk : ∀ (r : Int32) (s' : sgT), F r s' → RW G M cc rm QF (pc + 3) L (.int r :: rest) (wS G V s' lo) (cells + rm'.cells) (slots + rm'.slots)) : RW G M cc rm QF pc L st (wS G V s lo) cells slots := by
  refine sCallV hd hh hk hi hlk hrm ha hc8 hc hn hcs hsl hM hst hrest (fun v s' h => ?_)
  obtain ⟨r, rfl, h⟩ := h
  exact kk r s' h
theorem sCallVXi {F : Int32 → sgT → Prop} (hh0 : mH M = []) (hd : decode cc pc = .ok (.invokevirtual idx, 3)) (hh : mH M' = []) (hk : mOK M' cc' n) (hi : mInst M') (hlk : lLk (mO M) idx M') (hrm : rmOk rm rm' (mN M')) (ha : shAt V a (ci, len, fl)) (hc8 : ci < 8) (hc : vwCl[ci]? = some (mO M', T, N)) (hn : As.length = n) (hcs : cells + rm'.cells ≤ rm.cells) (hsl : slots + rm'.slots ≤ rm.slots)
    (hM : CSi G V M' cc' rm' (.ref (ad V a) :: As) s lo F g) (hst : st = As.reverse ++ .ref (ad V a) :: rest) (hrest : (rest.map fun v => v.category).sum ≤ 8) (hs0 : s = s0) (hx : ∀ E, g E → g0 E)
    (kk : ∀ (r : Int32) (s' : sgT), F r s' → RW G M cc rm (QS G V s0 lo f0 g0 rm) (pc + 3) L (.int r :: rest) (wS G V s' lo) (cells + rm'.cells) (slots + rm'.slots)) : RW G M cc rm (QS G V s0 lo f0 g0 rm) pc L st (wS G V s lo) cells slots := by
  refine sCallVX hh0 hd hh hk hi hlk hrm ha hc8 hc hn hcs hsl hM hst hrest hs0 hx (fun v s' h => ?_)
  obtain ⟨r, rfl, h⟩ := h
  exact kk r s' h
theorem sCallSi {F : Int32 → sgT → Prop} (hd : decode cc pc = .ok (.invokestatic idx, 3)) (hh : mH M' = []) (hk : mOK M' cc' n) (hi : Cond.static (mY M') ∈ gWds) (hlk : lLk (mO M) idx M') (hrm : rmOk rm rm' (mN M')) (hn : As.length = n) (hcs : cells + rm'.cells ≤ rm.cells) (hsl : slots + rm'.slots ≤ rm.slots)
    (hM : CSi G V M' cc' rm' As s lo F (fun _ => False)) (hst : st = As.reverse ++ rest) (hrest : (rest.map fun v => v.category).sum ≤ 8)
    (kk : ∀ (r : Int32) (s' : sgT), F r s' → RW G M cc rm QF (pc + 3) L (.int r :: rest) (wS G V s' lo) (cells + rm'.cells) (slots + rm'.slots)) : RW G M cc rm QF pc L st (wS G V s lo) cells slots := by
  refine sCallS hd hh hk hi hlk hrm hn hcs hsl hM hst hrest (fun v s' h => ?_)
  obtain ⟨r, rfl, h⟩ := h
  exact kk r s' h
theorem sCallSXi {F : Int32 → sgT → Prop} (hh0 : mH M = []) (hd : decode cc pc = .ok (.invokestatic idx, 3)) (hh : mH M' = []) (hk : mOK M' cc' n) (hi : Cond.static (mY M') ∈ gWds) (hlk : lLk (mO M) idx M') (hrm : rmOk rm rm' (mN M')) (hn : As.length = n) (hcs : cells + rm'.cells ≤ rm.cells) (hsl : slots + rm'.slots ≤ rm.slots)
    (hM : CSi G V M' cc' rm' As s lo F g) (hst : st = As.reverse ++ rest) (hrest : (rest.map fun v => v.category).sum ≤ 8) (hs0 : s = s0) (hx : ∀ E, g E → g0 E)
    (kk : ∀ (r : Int32) (s' : sgT), F r s' → RW G M cc rm (QS G V s0 lo f0 g0 rm) (pc + 3) L (.int r :: rest) (wS G V s' lo) (cells + rm'.cells) (slots + rm'.slots)) : RW G M cc rm (QS G V s0 lo f0 g0 rm) pc L st (wS G V s lo) cells slots := by
  refine sCallSX hh0 hd hh hk hi hlk hrm hn hcs hsl hM hst hrest hs0 hx (fun v s' h => ?_)
  obtain ⟨r, rfl, h⟩ := h
  exact kk r s' h
theorem sCallVv {F : sgT → Prop} (hd : decode cc pc = .ok (.invokevirtual idx, 3)) (hh : mH M' = []) (hk : mOK M' cc' n) (hi : mInst M') (hlk : lLk (mO M) idx M') (hrm : rmOk rm rm' (mN M')) (ha : shAt V a (ci, len, fl)) (hc8 : ci < 8) (hc : vwCl[ci]? = some (mO M', T, N)) (hn : As.length = n) (hcs : cells + rm'.cells ≤ rm.cells) (hsl : slots + rm'.slots ≤ rm.slots)
    (hM : CSv G V M' cc' rm' (.ref (ad V a) :: As) s lo F (fun _ => False)) (hst : st = As.reverse ++ .ref (ad V a) :: rest) (hrest : (rest.map fun v => v.category).sum ≤ 8)
    (kk : ∀ s' : sgT, F s' → RW G M cc rm QF (pc + 3) L rest (wS G V s' lo) (cells + rm'.cells) (slots + rm'.slots)) : RW G M cc rm QF pc L st (wS G V s lo) cells slots := by
  refine sCallV hd hh hk hi hlk hrm ha hc8 hc hn hcs hsl hM hst hrest (fun v s' h => ?_)
  obtain ⟨rfl, h⟩ := h
  exact kk s' h
theorem sCallVXv {F : sgT → Prop} (hh0 : mH M = []) (hd : decode cc pc = .ok (.invokevirtual idx, 3)) (hh : mH M' = []) (hk : mOK M' cc' n) (hi : mInst M') (hlk : lLk (mO M) idx M') (hrm : rmOk rm rm' (mN M')) (ha : shAt V a (ci, len, fl)) (hc8 : ci < 8) (hc : vwCl[ci]? = some (mO M', T, N)) (hn : As.length = n) (hcs : cells + rm'.cells ≤ rm.cells) (hsl : slots + rm'.slots ≤ rm.slots)
    (hM : CSv G V M' cc' rm' (.ref (ad V a) :: As) s lo F g) (hst : st = As.reverse ++ .ref (ad V a) :: rest) (hrest : (rest.map fun v => v.category).sum ≤ 8) (hs0 : s = s0) (hx : ∀ E, g E → g0 E)
    (kk : ∀ s' : sgT, F s' → RW G M cc rm (QS G V s0 lo f0 g0 rm) (pc + 3) L rest (wS G V s' lo) (cells + rm'.cells) (slots + rm'.slots)) : RW G M cc rm (QS G V s0 lo f0 g0 rm) pc L st (wS G V s lo) cells slots := by
  refine sCallVX hh0 hd hh hk hi hlk hrm ha hc8 hc hn hcs hsl hM hst hrest hs0 hx (fun v s' h => ?_)
  obtain ⟨rfl, h⟩ := h
  exact kk s' h
theorem sCallSv {F : sgT → Prop} (hd : decode cc pc = .ok (.invokestatic idx, 3)) (hh : mH M' = []) (hk : mOK M' cc' n) (hi : Cond.static (mY M') ∈ gWds) (hlk : lLk (mO M) idx M') (hrm : rmOk rm rm' (mN M')) (hn : As.length = n) (hcs : cells + rm'.cells ≤ rm.cells) (hsl : slots + rm'.slots ≤ rm.slots)
    (hM : CSv G V M' cc' rm' As s lo F (fun _ => False)) (hst : st = As.reverse ++ rest) (hrest : (rest.map fun v => v.category).sum ≤ 8)
    (kk : ∀ s' : sgT, F s' → RW G M cc rm QF (pc + 3) L rest (wS G V s' lo) (cells + rm'.cells) (slots + rm'.slots)) : RW G M cc rm QF pc L st (wS G V s lo) cells slots := by
  refine sCallS hd hh hk hi hlk hrm hn hcs hsl hM hst hrest (fun v s' h => ?_)
  obtain ⟨rfl, h⟩ := h
  exact kk s' h
theorem sCallSXv {F : sgT → Prop} (hh0 : mH M = []) (hd : decode cc pc = .ok (.invokestatic idx, 3)) (hh : mH M' = []) (hk : mOK M' cc' n) (hi : Cond.static (mY M') ∈ gWds) (hlk : lLk (mO M) idx M') (hrm : rmOk rm rm' (mN M')) (hn : As.length = n) (hcs : cells + rm'.cells ≤ rm.cells) (hsl : slots + rm'.slots ≤ rm.slots)
    (hM : CSv G V M' cc' rm' As s lo F g) (hst : st = As.reverse ++ rest) (hrest : (rest.map fun v => v.category).sum ≤ 8) (hs0 : s = s0) (hx : ∀ E, g E → g0 E)
    (kk : ∀ s' : sgT, F s' → RW G M cc rm (QS G V s0 lo f0 g0 rm) (pc + 3) L rest (wS G V s' lo) (cells + rm'.cells) (slots + rm'.slots)) : RW G M cc rm (QS G V s0 lo f0 g0 rm) pc L st (wS G V s lo) cells slots := by
  refine sCallSX hh0 hd hh hk hi hlk hrm hn hcs hsl hM hst hrest hs0 hx (fun v s' h => ?_)
  obtain ⟨rfl, h⟩ := h
  exact kk s' h
theorem sCallVp {F : Int32 → Prop} (hd : decode cc pc = .ok (.invokevirtual idx, 3)) (hh : mH M' = []) (hk : mOK M' cc' n) (hi : mInst M') (hlk : lLk (mO M) idx M') (hrm : rmOk rm rm' (mN M')) (ha : shAt V a (ci, len, fl)) (hc8 : ci < 8) (hc : vwCl[ci]? = some (mO M', T, N)) (hn : As.length = n) (hcs : cells + rm'.cells ≤ rm.cells) (hsl : slots + rm'.slots ≤ rm.slots)
    (hM : CSp G V M' cc' rm' (.ref (ad V a) :: As) s lo F (fun _ => False)) (hst : st = As.reverse ++ .ref (ad V a) :: rest) (hrest : (rest.map fun v => v.category).sum ≤ 8)
    (kk : ∀ (r : Int32), F r → RW G M cc rm QF (pc + 3) L (.int r :: rest) (wS G V s lo) (cells + rm'.cells) (slots + rm'.slots)) : RW G M cc rm QF pc L st (wS G V s lo) cells slots := by
  refine sCallV hd hh hk hi hlk hrm ha hc8 hc hn hcs hsl hM hst hrest (fun v s' h => ?_)
  obtain ⟨r, rfl, rfl, h⟩ := h
  exact kk r h
theorem sCallVXp {F : Int32 → Prop} (hh0 : mH M = []) (hd : decode cc pc = .ok (.invokevirtual idx, 3)) (hh : mH M' = []) (hk : mOK M' cc' n) (hi : mInst M') (hlk : lLk (mO M) idx M') (hrm : rmOk rm rm' (mN M')) (ha : shAt V a (ci, len, fl)) (hc8 : ci < 8) (hc : vwCl[ci]? = some (mO M', T, N)) (hn : As.length = n) (hcs : cells + rm'.cells ≤ rm.cells) (hsl : slots + rm'.slots ≤ rm.slots)
    (hM : CSp G V M' cc' rm' (.ref (ad V a) :: As) s lo F g) (hst : st = As.reverse ++ .ref (ad V a) :: rest) (hrest : (rest.map fun v => v.category).sum ≤ 8) (hs0 : s = s0) (hx : ∀ E, g E → g0 E)
    (kk : ∀ (r : Int32), F r → RW G M cc rm (QS G V s0 lo f0 g0 rm) (pc + 3) L (.int r :: rest) (wS G V s lo) (cells + rm'.cells) (slots + rm'.slots)) : RW G M cc rm (QS G V s0 lo f0 g0 rm) pc L st (wS G V s lo) cells slots := by
  refine sCallVX hh0 hd hh hk hi hlk hrm ha hc8 hc hn hcs hsl hM hst hrest hs0 hx (fun v s' h => ?_)
  obtain ⟨r, rfl, rfl, h⟩ := h
  exact kk r h
theorem sCallSp {F : Int32 → Prop} (hd : decode cc pc = .ok (.invokestatic idx, 3)) (hh : mH M' = []) (hk : mOK M' cc' n) (hi : Cond.static (mY M') ∈ gWds) (hlk : lLk (mO M) idx M') (hrm : rmOk rm rm' (mN M')) (hn : As.length = n) (hcs : cells + rm'.cells ≤ rm.cells) (hsl : slots + rm'.slots ≤ rm.slots)
    (hM : CSp G V M' cc' rm' As s lo F (fun _ => False)) (hst : st = As.reverse ++ rest) (hrest : (rest.map fun v => v.category).sum ≤ 8)
    (kk : ∀ (r : Int32), F r → RW G M cc rm QF (pc + 3) L (.int r :: rest) (wS G V s lo) (cells + rm'.cells) (slots + rm'.slots)) : RW G M cc rm QF pc L st (wS G V s lo) cells slots := by
  refine sCallS hd hh hk hi hlk hrm hn hcs hsl hM hst hrest (fun v s' h => ?_)
  obtain ⟨r, rfl, rfl, h⟩ := h
  exact kk r h
theorem sCallSXp {F : Int32 → Prop} (hh0 : mH M = []) (hd : decode cc pc = .ok (.invokestatic idx, 3)) (hh : mH M' = []) (hk : mOK M' cc' n) (hi : Cond.static (mY M') ∈ gWds) (hlk : lLk (mO M) idx M') (hrm : rmOk rm rm' (mN M')) (hn : As.length = n) (hcs : cells + rm'.cells ≤ rm.cells) (hsl : slots + rm'.slots ≤ rm.slots)
    (hM : CSp G V M' cc' rm' As s lo F g) (hst : st = As.reverse ++ rest) (hrest : (rest.map fun v => v.category).sum ≤ 8) (hs0 : s = s0) (hx : ∀ E, g E → g0 E)
    (kk : ∀ (r : Int32), F r → RW G M cc rm (QS G V s0 lo f0 g0 rm) (pc + 3) L (.int r :: rest) (wS G V s lo) (cells + rm'.cells) (slots + rm'.slots)) : RW G M cc rm (QS G V s0 lo f0 g0 rm) pc L st (wS G V s lo) cells slots := by
  refine sCallSX hh0 hd hh hk hi hlk hrm hn hcs hsl hM hst hrest hs0 hx (fun v s' h => ?_)
  obtain ⟨r, rfl, rfl, h⟩ := h
  exact kk r h
theorem sCallVq {F : Nat → Prop} (hd : decode cc pc = .ok (.invokevirtual idx, 3)) (hh : mH M' = []) (hk : mOK M' cc' n) (hi : mInst M') (hlk : lLk (mO M) idx M') (hrm : rmOk rm rm' (mN M')) (ha : shAt V a (ci, len, fl)) (hc8 : ci < 8) (hc : vwCl[ci]? = some (mO M', T, N)) (hn : As.length = n) (hcs : cells + rm'.cells ≤ rm.cells) (hsl : slots + rm'.slots ≤ rm.slots)
    (hM : CSq G V M' cc' rm' (.ref (ad V a) :: As) s lo F (fun _ => False)) (hst : st = As.reverse ++ .ref (ad V a) :: rest) (hrest : (rest.map fun v => v.category).sum ≤ 8)
    (kk : ∀ (b : Nat), F b → RW G M cc rm QF (pc + 3) L (.ref (ad V b) :: rest) (wS G V s lo) (cells + rm'.cells) (slots + rm'.slots)) : RW G M cc rm QF pc L st (wS G V s lo) cells slots := by
  refine sCallV hd hh hk hi hlk hrm ha hc8 hc hn hcs hsl hM hst hrest (fun v s' h => ?_)
  obtain ⟨b, rfl, rfl, h⟩ := h
  exact kk b h
theorem sCallVXq {F : Nat → Prop} (hh0 : mH M = []) (hd : decode cc pc = .ok (.invokevirtual idx, 3)) (hh : mH M' = []) (hk : mOK M' cc' n) (hi : mInst M') (hlk : lLk (mO M) idx M') (hrm : rmOk rm rm' (mN M')) (ha : shAt V a (ci, len, fl)) (hc8 : ci < 8) (hc : vwCl[ci]? = some (mO M', T, N)) (hn : As.length = n) (hcs : cells + rm'.cells ≤ rm.cells) (hsl : slots + rm'.slots ≤ rm.slots)
    (hM : CSq G V M' cc' rm' (.ref (ad V a) :: As) s lo F g) (hst : st = As.reverse ++ .ref (ad V a) :: rest) (hrest : (rest.map fun v => v.category).sum ≤ 8) (hs0 : s = s0) (hx : ∀ E, g E → g0 E)
    (kk : ∀ (b : Nat), F b → RW G M cc rm (QS G V s0 lo f0 g0 rm) (pc + 3) L (.ref (ad V b) :: rest) (wS G V s lo) (cells + rm'.cells) (slots + rm'.slots)) : RW G M cc rm (QS G V s0 lo f0 g0 rm) pc L st (wS G V s lo) cells slots := by
  refine sCallVX hh0 hd hh hk hi hlk hrm ha hc8 hc hn hcs hsl hM hst hrest hs0 hx (fun v s' h => ?_)
  obtain ⟨b, rfl, rfl, h⟩ := h
  exact kk b h
theorem sCallSq {F : Nat → Prop} (hd : decode cc pc = .ok (.invokestatic idx, 3)) (hh : mH M' = []) (hk : mOK M' cc' n) (hi : Cond.static (mY M') ∈ gWds) (hlk : lLk (mO M) idx M') (hrm : rmOk rm rm' (mN M')) (hn : As.length = n) (hcs : cells + rm'.cells ≤ rm.cells) (hsl : slots + rm'.slots ≤ rm.slots)
    (hM : CSq G V M' cc' rm' As s lo F (fun _ => False)) (hst : st = As.reverse ++ rest) (hrest : (rest.map fun v => v.category).sum ≤ 8)
    (kk : ∀ (b : Nat), F b → RW G M cc rm QF (pc + 3) L (.ref (ad V b) :: rest) (wS G V s lo) (cells + rm'.cells) (slots + rm'.slots)) : RW G M cc rm QF pc L st (wS G V s lo) cells slots := by
  refine sCallS hd hh hk hi hlk hrm hn hcs hsl hM hst hrest (fun v s' h => ?_)
  obtain ⟨b, rfl, rfl, h⟩ := h
  exact kk b h
theorem sCallSXq {F : Nat → Prop} (hh0 : mH M = []) (hd : decode cc pc = .ok (.invokestatic idx, 3)) (hh : mH M' = []) (hk : mOK M' cc' n) (hi : Cond.static (mY M') ∈ gWds) (hlk : lLk (mO M) idx M') (hrm : rmOk rm rm' (mN M')) (hn : As.length = n) (hcs : cells + rm'.cells ≤ rm.cells) (hsl : slots + rm'.slots ≤ rm.slots)
    (hM : CSq G V M' cc' rm' As s lo F g) (hst : st = As.reverse ++ rest) (hrest : (rest.map fun v => v.category).sum ≤ 8) (hs0 : s = s0) (hx : ∀ E, g E → g0 E)
    (kk : ∀ (b : Nat), F b → RW G M cc rm (QS G V s0 lo f0 g0 rm) (pc + 3) L (.ref (ad V b) :: rest) (wS G V s lo) (cells + rm'.cells) (slots + rm'.slots)) : RW G M cc rm (QS G V s0 lo f0 g0 rm) pc L st (wS G V s lo) cells slots := by
  refine sCallSX hh0 hd hh hk hi hlk hrm hn hcs hsl hM hst hrest hs0 hx (fun v s' h => ?_)
  obtain ⟨b, rfl, rfl, h⟩ := h
  exact kk b h
theorem sCallVu {F : Prop} (hd : decode cc pc = .ok (.invokevirtual idx, 3)) (hh : mH M' = []) (hk : mOK M' cc' n) (hi : mInst M') (hlk : lLk (mO M) idx M') (hrm : rmOk rm rm' (mN M')) (ha : shAt V a (ci, len, fl)) (hc8 : ci < 8) (hc : vwCl[ci]? = some (mO M', T, N)) (hn : As.length = n) (hcs : cells + rm'.cells ≤ rm.cells) (hsl : slots + rm'.slots ≤ rm.slots)
    (hM : CSu G V M' cc' rm' (.ref (ad V a) :: As) s lo F (fun _ => False)) (hst : st = As.reverse ++ .ref (ad V a) :: rest) (hrest : (rest.map fun v => v.category).sum ≤ 8)
    (kk : F → RW G M cc rm QF (pc + 3) L rest (wS G V s lo) (cells + rm'.cells) (slots + rm'.slots)) : RW G M cc rm QF pc L st (wS G V s lo) cells slots := by
  refine sCallV hd hh hk hi hlk hrm ha hc8 hc hn hcs hsl hM hst hrest (fun v s' h => ?_)
  obtain ⟨rfl, rfl, h⟩ := h
  exact kk h
theorem sCallVXu {F : Prop} (hh0 : mH M = []) (hd : decode cc pc = .ok (.invokevirtual idx, 3)) (hh : mH M' = []) (hk : mOK M' cc' n) (hi : mInst M') (hlk : lLk (mO M) idx M') (hrm : rmOk rm rm' (mN M')) (ha : shAt V a (ci, len, fl)) (hc8 : ci < 8) (hc : vwCl[ci]? = some (mO M', T, N)) (hn : As.length = n) (hcs : cells + rm'.cells ≤ rm.cells) (hsl : slots + rm'.slots ≤ rm.slots)
    (hM : CSu G V M' cc' rm' (.ref (ad V a) :: As) s lo F g) (hst : st = As.reverse ++ .ref (ad V a) :: rest) (hrest : (rest.map fun v => v.category).sum ≤ 8) (hs0 : s = s0) (hx : ∀ E, g E → g0 E)
    (kk : F → RW G M cc rm (QS G V s0 lo f0 g0 rm) (pc + 3) L rest (wS G V s lo) (cells + rm'.cells) (slots + rm'.slots)) : RW G M cc rm (QS G V s0 lo f0 g0 rm) pc L st (wS G V s lo) cells slots := by
  refine sCallVX hh0 hd hh hk hi hlk hrm ha hc8 hc hn hcs hsl hM hst hrest hs0 hx (fun v s' h => ?_)
  obtain ⟨rfl, rfl, h⟩ := h
  exact kk h
theorem sCallSu {F : Prop} (hd : decode cc pc = .ok (.invokestatic idx, 3)) (hh : mH M' = []) (hk : mOK M' cc' n) (hi : Cond.static (mY M') ∈ gWds) (hlk : lLk (mO M) idx M') (hrm : rmOk rm rm' (mN M')) (hn : As.length = n) (hcs : cells + rm'.cells ≤ rm.cells) (hsl : slots + rm'.slots ≤ rm.slots)
    (hM : CSu G V M' cc' rm' As s lo F (fun _ => False)) (hst : st = As.reverse ++ rest) (hrest : (rest.map fun v => v.category).sum ≤ 8)
    (kk : F → RW G M cc rm QF (pc + 3) L rest (wS G V s lo) (cells + rm'.cells) (slots + rm'.slots)) : RW G M cc rm QF pc L st (wS G V s lo) cells slots := by
  refine sCallS hd hh hk hi hlk hrm hn hcs hsl hM hst hrest (fun v s' h => ?_)
  obtain ⟨rfl, rfl, h⟩ := h
  exact kk h
theorem sCallSXu {F : Prop} (hh0 : mH M = []) (hd : decode cc pc = .ok (.invokestatic idx, 3)) (hh : mH M' = []) (hk : mOK M' cc' n) (hi : Cond.static (mY M') ∈ gWds) (hlk : lLk (mO M) idx M') (hrm : rmOk rm rm' (mN M')) (hn : As.length = n) (hcs : cells + rm'.cells ≤ rm.cells) (hsl : slots + rm'.slots ≤ rm.slots)
    (hM : CSu G V M' cc' rm' As s lo F g) (hst : st = As.reverse ++ rest) (hrest : (rest.map fun v => v.category).sum ≤ 8) (hs0 : s = s0) (hx : ∀ E, g E → g0 E)
    (kk : F → RW G M cc rm (QS G V s0 lo f0 g0 rm) (pc + 3) L rest (wS G V s lo) (cells + rm'.cells) (slots + rm'.slots)) : RW G M cc rm (QS G V s0 lo f0 g0 rm) pc L st (wS G V s lo) cells slots := by
  refine sCallSX hh0 hd hh hk hi hlk hrm hn hcs hsl hM hst hrest hs0 hx (fun v s' h => ?_)
  obtain ⟨rfl, rfl, h⟩ := h
  exact kk h
theorem sCallVr {F : Nat → sgT → Prop} (hd : decode cc pc = .ok (.invokevirtual idx, 3)) (hh : mH M' = []) (hk : mOK M' cc' n) (hi : mInst M') (hlk : lLk (mO M) idx M') (hrm : rmOk rm rm' (mN M')) (ha : shAt V a (ci, len, fl)) (hc8 : ci < 8) (hc : vwCl[ci]? = some (mO M', T, N)) (hn : As.length = n) (hcs : cells + rm'.cells ≤ rm.cells) (hsl : slots + rm'.slots ≤ rm.slots)
    (hM : CSr G V M' cc' rm' (.ref (ad V a) :: As) s lo F (fun _ => False)) (hst : st = As.reverse ++ .ref (ad V a) :: rest) (hrest : (rest.map fun v => v.category).sum ≤ 8)
    (kk : ∀ (b : Nat) (s' : sgT), F b s' → RW G M cc rm QF (pc + 3) L (.ref (ad V b) :: rest) (wS G V s' lo) (cells + rm'.cells) (slots + rm'.slots)) : RW G M cc rm QF pc L st (wS G V s lo) cells slots := by
  refine sCallV hd hh hk hi hlk hrm ha hc8 hc hn hcs hsl hM hst hrest (fun v s' h => ?_)
  obtain ⟨b, rfl, h⟩ := h
  exact kk b s' h
theorem sCallVXr {F : Nat → sgT → Prop} (hh0 : mH M = []) (hd : decode cc pc = .ok (.invokevirtual idx, 3)) (hh : mH M' = []) (hk : mOK M' cc' n) (hi : mInst M') (hlk : lLk (mO M) idx M') (hrm : rmOk rm rm' (mN M')) (ha : shAt V a (ci, len, fl)) (hc8 : ci < 8) (hc : vwCl[ci]? = some (mO M', T, N)) (hn : As.length = n) (hcs : cells + rm'.cells ≤ rm.cells) (hsl : slots + rm'.slots ≤ rm.slots)
    (hM : CSr G V M' cc' rm' (.ref (ad V a) :: As) s lo F g) (hst : st = As.reverse ++ .ref (ad V a) :: rest) (hrest : (rest.map fun v => v.category).sum ≤ 8) (hs0 : s = s0) (hx : ∀ E, g E → g0 E)
    (kk : ∀ (b : Nat) (s' : sgT), F b s' → RW G M cc rm (QS G V s0 lo f0 g0 rm) (pc + 3) L (.ref (ad V b) :: rest) (wS G V s' lo) (cells + rm'.cells) (slots + rm'.slots)) : RW G M cc rm (QS G V s0 lo f0 g0 rm) pc L st (wS G V s lo) cells slots := by
  refine sCallVX hh0 hd hh hk hi hlk hrm ha hc8 hc hn hcs hsl hM hst hrest hs0 hx (fun v s' h => ?_)
  obtain ⟨b, rfl, h⟩ := h
  exact kk b s' h
theorem sCallSr {F : Nat → sgT → Prop} (hd : decode cc pc = .ok (.invokestatic idx, 3)) (hh : mH M' = []) (hk : mOK M' cc' n) (hi : Cond.static (mY M') ∈ gWds) (hlk : lLk (mO M) idx M') (hrm : rmOk rm rm' (mN M')) (hn : As.length = n) (hcs : cells + rm'.cells ≤ rm.cells) (hsl : slots + rm'.slots ≤ rm.slots)
    (hM : CSr G V M' cc' rm' As s lo F (fun _ => False)) (hst : st = As.reverse ++ rest) (hrest : (rest.map fun v => v.category).sum ≤ 8)
    (kk : ∀ (b : Nat) (s' : sgT), F b s' → RW G M cc rm QF (pc + 3) L (.ref (ad V b) :: rest) (wS G V s' lo) (cells + rm'.cells) (slots + rm'.slots)) : RW G M cc rm QF pc L st (wS G V s lo) cells slots := by
  refine sCallS hd hh hk hi hlk hrm hn hcs hsl hM hst hrest (fun v s' h => ?_)
  obtain ⟨b, rfl, h⟩ := h
  exact kk b s' h
theorem sCallSXr {F : Nat → sgT → Prop} (hh0 : mH M = []) (hd : decode cc pc = .ok (.invokestatic idx, 3)) (hh : mH M' = []) (hk : mOK M' cc' n) (hi : Cond.static (mY M') ∈ gWds) (hlk : lLk (mO M) idx M') (hrm : rmOk rm rm' (mN M')) (hn : As.length = n) (hcs : cells + rm'.cells ≤ rm.cells) (hsl : slots + rm'.slots ≤ rm.slots)
    (hM : CSr G V M' cc' rm' As s lo F g) (hst : st = As.reverse ++ rest) (hrest : (rest.map fun v => v.category).sum ≤ 8) (hs0 : s = s0) (hx : ∀ E, g E → g0 E)
    (kk : ∀ (b : Nat) (s' : sgT), F b s' → RW G M cc rm (QS G V s0 lo f0 g0 rm) (pc + 3) L (.ref (ad V b) :: rest) (wS G V s' lo) (cells + rm'.cells) (slots + rm'.slots)) : RW G M cc rm (QS G V s0 lo f0 g0 rm) pc L st (wS G V s lo) cells slots := by
  refine sCallSX hh0 hd hh hk hi hlk hrm hn hcs hsl hM hst hrest hs0 hx (fun v s' h => ?_)
  obtain ⟨b, rfl, h⟩ := h
  exact kk b s' h
end gC2
theorem nz_eq {n : Nat} (h : n < 2 ^ 31) : nI n = 0 ↔ n = 0 := by
  constructor
  · intro e
    by_cases h0 : n = 0
    · exact h0
    · exact absurd e (nI_ne0 (by omega) h)
  · rintro rfl
    exact nI_0
theorem nz_lt {n : Nat} (h : n < 2 ^ 31) : nI n < 0 ↔ False := ⟨fun e => absurd e (nI_pos h), fun h => h.elim⟩
theorem nz_ge {n : Nat} (h : n < 2 ^ 31) : 0 ≤ nI n ↔ True := ⟨fun _ => trivial, fun _ => nI_pos' h⟩
theorem nz_gt {n : Nat} (h : n < 2 ^ 31) : 0 < nI n ↔ 0 < n := by
  have e : (0 : Int32) = nI 0 := nI_0.symm
  rw [e, nI_ltI (by omega) h]
theorem nz_le {n : Nat} (h : n < 2 ^ 31) : nI n ≤ 0 ↔ n = 0 := by
  have e : (0 : Int32) = nI 0 := nI_0.symm
  rw [e, nI_leI h (by omega)]
  omega
/-- what a method answers by yes or no -/
def isB (r : Int32) (c : Prop) : Prop := (c ∧ r = nI 1) ∨ (¬ c ∧ r = nI 0)
