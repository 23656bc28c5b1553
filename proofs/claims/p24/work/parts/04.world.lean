/-! the fixed world: its cells' shapes don't change, its numbers do: s k j is what the cell k holds at j -/
abbrev sgT : Type := Nat → Nat → Int32
abbrev shT : Type := Nat × Nat × List (Option Nat)
abbrev wV : Type := (Nat → shT) × Nat × (Nat → Nat)
abbrev ad (V : wV) (k : Nat) : Nat := V.2.2 k
abbrev vr (V : wV) (k : Nat) : Value := .ref (V.2.2 k)
/-- the cell k lies in the world and is of this shape: kind, length, fields or elements that refer -/
def shAt (V : wV) (k : Nat) (x : shT) : Prop := k < V.2.1 ∧ V.1 k = x
def fsV (V : wV) (s : sgT) (k j : Nat) : Option Nat → Value
  | some b => .ref (ad V b)
  | none => .int (s k j)
def fsO (V : wV) (s : sgT) (k : Nat) (fl : List (Option Nat)) : List Value := fl.mapIdx (fun j o => fsV V s k j o)
def cel (G : gG) (V : wV) (s : sgT) (lo : Nat → Int64) (k : Nat) : va_E := match (V.1 k).1 with
  | 8 => .inl (gcy G 0, (V.1 k).2.1, .inl (s k))
  | 10 => .inl (gcy G 1, (V.1 k).2.1, .inr (.inr (.inr (.inr (fun i => ((V.1 k).2.2.getD i none).map (ad V))))))
  | ci => .inr (ci, fsO V s k (V.1 k).2.2)
def wS (G : gG) (V : wV) (s : sgT) (lo : Nat → Int64) : va_W := (List.range V.2.1).map (fun k => (ad V k, cel G V s lo k))
theorem wS_at {G : gG} {V : wV} {s : sgT} {lo : Nat → Int64} {k : Nat} {x : shT} (h : shAt V k x) : (wS G V s lo)[k]? = some (ad V k, cel G V s lo k) := by
  unfold wS
  rw [List.getElem?_map, List.getElem?_range h.1]
  rfl
/-- the number j of the cell k is now x -/
def sw (s : sgT) (k j : Nat) (x : Int32) : sgT := va_up s k (upd (s k) j x)
theorem sw_s {s : sgT} {k j : Nat} {x : Int32} : sw s k j x k j = x := by simp [sw, va_up, upd]
theorem sw_a {s : sgT} {k j b : Nat} {x : Int32} (h : b ≠ k) : sw s k j x b = s b := by simp [sw, va_up, h]
theorem sw_i {s : sgT} {k j i : Nat} {x : Int32} (h : i ≠ j) : sw s k j x k i = s k i := by simp [sw, va_up, upd, h]
theorem wS_ext {G : gG} {V : wV} {s s' : sgT} {lo lo' : Nat → Int64} {k : Nat} {e : va_E} (hk : k < V.2.1) (h1 : cel G V s' lo' k = e) (h2 : ∀ b, b ≠ k → cel G V s' lo' b = cel G V s lo b) : (wS G V s lo).set k (ad V k, e) = wS G V s' lo' := by
  apply List.ext_getElem?
  intro i
  unfold wS
  by_cases hi : i = k
  · subst hi
    rw [List.getElem?_set_self (by simpa using hk), List.getElem?_map, List.getElem?_range hk]
    simp [h1]
  · rw [List.getElem?_set_ne (Ne.symm hi), List.getElem?_map, List.getElem?_map]
    by_cases hl : i < V.2.1
    · rw [List.getElem?_range hl]
      simp [h2 i hi]
    · rw [List.getElem?_eq_none (by simpa using hl)]
      rfl
theorem cel_sw {G : gG} {V : wV} {s : sgT} {lo : Nat → Int64} {k j : Nat} {x : Int32} {b : Nat} (h : b ≠ k) : cel G V (sw s k j x) lo b = cel G V s lo b := by
  have e : sw s k j x b = s b := sw_a h
  have e3 : ∀ fl, fsO V (sw s k j x) b fl = fsO V s b fl := by
    intro fl
    unfold fsO
    congr 1
    funext i o
    cases o with
    | none =>
      show Value.int (sw s k j x b i) = Value.int (s b i)
      rw [e]
    | some c => rfl
  unfold cel
  rw [e, e3]
theorem cel_O {G : gG} {V : wV} {s : sgT} {lo : Nat → Int64} {k ci len : Nat} {fl : List (Option Nat)} (h : shAt V k (ci, len, fl)) (hc : ci < 8) : cel G V s lo k = .inr (ci, fsO V s k fl) := by
  unfold cel
  rw [h.2]
  match ci, hc with
  | 0, _ => rfl
  | 1, _ => rfl
  | 2, _ => rfl
  | 3, _ => rfl
  | 4, _ => rfl
  | 5, _ => rfl
  | 6, _ => rfl
  | 7, _ => rfl
  | n + 8, hc => exact absurd hc (by omega)
theorem cel_I {G : gG} {V : wV} {s : sgT} {lo : Nat → Int64} {k n : Nat} {fl : List (Option Nat)} (h : shAt V k (8, n, fl)) : cel G V s lo k = .inl (gcy G 0, n, .inl (s k)) := by
  unfold cel
  rw [h.2]
  rfl
theorem cel_P {G : gG} {V : wV} {s : sgT} {lo : Nat → Int64} {k n : Nat} {fl : List (Option Nat)} (h : shAt V k (10, n, fl)) : cel G V s lo k = .inl (gcy G 1, n, .inr (.inr (.inr (.inr (fun i => (fl.getD i none).map (ad V)))))) := by
  unfold cel
  rw [h.2]
  rfl
theorem fsO_get {V : wV} {s : sgT} {k j : Nat} {fl : List (Option Nat)} {o : Option Nat} (h : fl[j]? = some o) : (fsO V s k fl)[j]? = some (fsV V s k j o) := by
  unfold fsO
  rw [List.getElem?_mapIdx, h]
  rfl
theorem fsO_set {V : wV} {s : sgT} {k j : Nat} {x : Int32} {fl : List (Option Nat)} (h : fl[j]? = some none) : (fsO V s k fl).set j (.int x) = fsO V (sw s k j x) k fl := by
  apply List.ext_getElem?
  intro i
  have hl : j < fl.length := (List.getElem?_eq_some_iff.mp h).1
  unfold fsO
  by_cases hi : i = j
  · subst hi
    rw [List.getElem?_set_self (by simpa using hl), List.getElem?_mapIdx, h]
    simp [fsV, sw, va_up, upd]
  · rw [List.getElem?_set_ne (Ne.symm hi), List.getElem?_mapIdx, List.getElem?_mapIdx]
    congr 1
    funext o
    cases o with
    | none => simp [fsV, sw, va_up, upd, hi]
    | some b => rfl
/-- the judgement over the fixed world -/
abbrev RS (G : gG) (V : wV) (M : mT) (cc : ByteArray) (rm : Room) (QF : Array Value → State → List Frame → State → Prop) (pc : Nat) (L : List (Option Value)) (st : List Value) (s : sgT) (lo : Nat → Int64) (cells slots : Nat) : Prop := RW G M cc rm QF pc L st (wS G V s lo) cells slots
section gS
variable {G : gG} {V : wV} {M : mT} {cc : ByteArray} {rm : Room} {QF : Array Value → State → List Frame → State → Prop} {pc : Nat} {L : List (Option Value)} {st : List Value} {s : sgT} {lo : Nat → Int64} {cells slots : Nat} {a idx ci j N len b n : Nat} {C : String} {T : u_T} {fl : List (Option Nat)}
theorem sGetI {x : Int32} (hd : decode cc pc = .ok (.getfield idx, 3)) (hf : fLk (mO M) idx ci j C T N) (ha : shAt V a (ci, len, fl)) (hc : ci < 8) (hj : fl[j]? = some none) (hv : s a j = x) (kk : RW G M cc rm QF (pc + 3) L (.int x :: st) (wS G V s lo) cells slots) : RW G M cc rm QF pc L (.ref (ad V a) :: st) (wS G V s lo) cells slots := by
  subst hv
  exact rGet hd hf a (by rw [wS_at ha, cel_O ha hc]) (fsO_get hj) kk
theorem sGetR (hd : decode cc pc = .ok (.getfield idx, 3)) (hf : fLk (mO M) idx ci j C T N) (ha : shAt V a (ci, len, fl)) (hc : ci < 8) (hj : fl[j]? = some (some b)) (kk : RW G M cc rm QF (pc + 3) L (.ref (ad V b) :: st) (wS G V s lo) cells slots) : RW G M cc rm QF pc L (.ref (ad V a) :: st) (wS G V s lo) cells slots :=
  rGet hd hf a (by rw [wS_at ha, cel_O ha hc]) (fsO_get hj) kk
theorem sPutI {x : Int32} {ty : Nat → FieldType} (hd : decode cc pc = .ok (.putfield idx, 3)) (hf : fLk (mO M) idx ci j C T N) (ht : fTy C T N ty) (hfin : (T j).2.2.2 = false) (ha : shAt V a (ci, len, fl)) (hc : ci < 8) (hj : fl[j]? = some none) (hn : narrow (ty j) (.int x) = .int x) (hfit : fits (ty j) (.int x) = true) (kk : RW G M cc rm QF (pc + 3) L st (wS G V (sw s a j x) lo) cells slots) : RW G M cc rm QF pc L (.int x :: .ref (ad V a) :: st) (wS G V s lo) cells slots := by
  refine rPut hd hf ht hfin a (by rw [wS_at ha, cel_O ha hc]) hn hfit (by unfold fsO; rw [List.length_mapIdx]; exact (List.getElem?_eq_some_iff.mp hj).1) ?_
  rw [fsO_set hj, wS_ext ha.1 (cel_O (s := sw s a j x) ha hc) (fun b hb => cel_sw hb)]
  exact kk
theorem sIald {i x : Int32} (hd : decode cc pc = .ok (.iaload, 1)) (ha : shAt V a (8, n, fl)) (hi : vp_in i n) (hv : s a i.toNatClampNeg = x) (kk : RW G M cc rm QF (pc + 1) L (.int x :: st) (wS G V s lo) cells slots) : RW G M cc rm QF pc L (.int i :: .ref (ad V a) :: st) (wS G V s lo) cells slots := by
  subst hv
  exact rIald hd a (by rw [wS_at ha, cel_I ha]) hi kk
theorem sAald {i : Int32} (hd : decode cc pc = .ok (.aaload, 1)) (ha : shAt V a (10, n, fl)) (hi : vp_in i n) (hv : fl.getD i.toNatClampNeg none = some b) (kk : RW G M cc rm QF (pc + 1) L (.ref (ad V b) :: st) (wS G V s lo) cells slots) : RW G M cc rm QF pc L (.int i :: .ref (ad V a) :: st) (wS G V s lo) cells slots := by
  refine rAald hd a (by rw [wS_at ha, cel_P ha]) hi ?_
  rw [hv]
  exact kk
theorem sIast {i x : Int32} (hd : decode cc pc = .ok (.iastore, 1)) (ha : shAt V a (8, n, fl)) (hi : vp_in i n) (kk : RW G M cc rm QF (pc + 1) L st (wS G V (sw s a i.toNatClampNeg x) lo) cells slots) : RW G M cc rm QF pc L (.int x :: .int i :: .ref (ad V a) :: st) (wS G V s lo) cells slots := by
  refine rIast hd a (by rw [wS_at ha, cel_I ha]) hi ?_
  rw [wS_ext ha.1 (s' := sw s a i.toNatClampNeg x) (lo' := lo) (by rw [cel_I ha]; simp [sw, va_up]) (fun b hb => cel_sw hb)]
  exact kk
theorem sAlenI {v : Int32} (hd : decode cc pc = .ok (.arraylength, 1)) (ha : shAt V a (8, n, fl)) (hv : Int32.ofNat n = v) (kk : RW G M cc rm QF (pc + 1) L (.int v :: st) (wS G V s lo) cells slots) : RW G M cc rm QF pc L (.ref (ad V a) :: st) (wS G V s lo) cells slots :=
  rAlenI hd a (by rw [wS_at ha, cel_I ha]) hv kk
end gS
/-- a contract over the fixed world: it answers v and leaves s' with f v s'; or throws E with g E and leaves all as it was -/
def CS (G : gG) (V : wV) (M : mT) (cc : ByteArray) (rm : Room) (args : List Value) (s : sgT) (lo : Nat → Int64) (f : Option Value → sgT → Prop) (g : String → Prop) : Prop :=
  CT G M cc rm args (wS G V s lo) (fun v w => ∃ s' : sgT, w = wS G V s' lo ∧ f v s') (fun E w => w = wS G V s lo ∧ g E)
abbrev QS (G : gG) (V : wV) (s : sgT) (lo : Nat → Int64) (f : Option Value → sgT → Prop) (g : String → Prop) (rm : Room) : Array Value → State → List Frame → State → Prop :=
  gQF G (fun v w => ∃ s' : sgT, w = wS G V s' lo ∧ f v s') (fun E w => w = wS G V s lo ∧ g E) rm
theorem CS.of {G : gG} {V : wV} {M : mT} {cc : ByteArray} {rm : Room} {vs : List Value} {s : sgT} {lo : Nat → Int64} {f : Option Value → sgT → Prop} {g : String → Prop} (hh : mH M = []) (hpl : plainName (mO M) = true) (h1 : ∀ v ∈ vs, v.category = 1) (hn : vs.length ≤ mN M)
    (k : RW G M cc rm (QS G V s lo f g rm) 0 (gEnt vs (mN M)) [] (wS G V s lo) 0 0) : CS G V M cc rm vs s lo f g := CT.of hh hpl h1 hn k
section gSC
variable {G : gG} {V : wV} {M M' : mT} {cc cc' : ByteArray} {rm rm' : Room} {QF : Array Value → State → List Frame → State → Prop} {pc : Nat} {L : List (Option Value)} {st rest : List Value} {s s0 : sgT} {lo : Nat → Int64} {cells slots : Nat} {a idx ci n len N : Nat} {T : u_T} {fl : List (Option Nat)} {As : List Value} {f f0 : Option Value → sgT → Prop} {g g0 : String → Prop}
/-- a call of a method on the object a, that throws nothing -/
theorem sCallV (hd : decode cc pc = .ok (.invokevirtual idx, 3)) (hh : mH M' = []) (hk : mOK M' cc' n) (hi : mInst M') (hlk : lLk (mO M) idx M') (hrm : rmOk rm rm' (mN M')) (ha : shAt V a (ci, len, fl)) (hc8 : ci < 8) (hc : vwCl[ci]? = some (mO M', T, N)) (hn : As.length = n) (hcs : cells + rm'.cells ≤ rm.cells) (hsl : slots + rm'.slots ≤ rm.slots)
    (hM : CS G V M' cc' rm' (.ref (ad V a) :: As) s lo f (fun _ => False)) (hst : st = As.reverse ++ .ref (ad V a) :: rest) (hrest : (rest.map fun v => v.category).sum ≤ 8)
    (kk : ∀ (v : Option Value) (s' : sgT), f v s' → RW G M cc rm QF (pc + 3) L (v.toList ++ rest) (wS G V s' lo) (cells + rm'.cells) (slots + rm'.slots)) : RW G M cc rm QF pc L st (wS G V s lo) cells slots := by
  subst hst
  refine rCall (mc := rm'.cells) (ms := rm'.slots) (rest := rest) (post := fun v w => ∃ s' : sgT, w = wS G V s' lo ∧ f v s') ?_ (fun v w h => ?_)
  · refine rRunV hd hh hk hi hlk hrm a (by rw [wS_at ha, cel_O ha hc8]) hc hn hrest hcs hsl ?_
    have e : (fun (E : String) (w : va_W) => w = wS G V s lo ∧ (fun _ : String => False) E) = fun _ _ => False := by
      funext E w
      simp
    have h9 := hM
    unfold CS at h9
    rw [e] at h9
    exact h9
  · obtain ⟨s', rfl, h⟩ := h
    exact kk v s' h
/-- .. that may throw -/
theorem sCallVX (hh0 : mH M = []) (hd : decode cc pc = .ok (.invokevirtual idx, 3)) (hh : mH M' = []) (hk : mOK M' cc' n) (hi : mInst M') (hlk : lLk (mO M) idx M') (hrm : rmOk rm rm' (mN M')) (ha : shAt V a (ci, len, fl)) (hc8 : ci < 8) (hc : vwCl[ci]? = some (mO M', T, N)) (hn : As.length = n) (hcs : cells + rm'.cells ≤ rm.cells) (hsl : slots + rm'.slots ≤ rm.slots)
    (hM : CS G V M' cc' rm' (.ref (ad V a) :: As) s lo f g) (hst : st = As.reverse ++ .ref (ad V a) :: rest) (hrest : (rest.map fun v => v.category).sum ≤ 8) (hs0 : s = s0) (hx : ∀ E, g E → g0 E)
    (kk : ∀ (v : Option Value) (s' : sgT), f v s' → RW G M cc rm (QS G V s0 lo f0 g0 rm) (pc + 3) L (v.toList ++ rest) (wS G V s' lo) (cells + rm'.cells) (slots + rm'.slots)) : RW G M cc rm (QS G V s0 lo f0 g0 rm) pc L st (wS G V s lo) cells slots := by
  subst hst
  subst hs0
  refine rCallX hh0 (rRunV hd hh hk hi hlk hrm a (by rw [wS_at ha, cel_O ha hc8]) hc hn hrest hcs hsl hM) hcs hsl (fun E w h => ⟨h.1, hx E h.2⟩) (fun v w h => ?_)
  obtain ⟨s', rfl, h⟩ := h
  exact kk v s' h
theorem sCallS (hd : decode cc pc = .ok (.invokestatic idx, 3)) (hh : mH M' = []) (hk : mOK M' cc' n) (hi : Cond.static (mY M') ∈ gWds) (hlk : lLk (mO M) idx M') (hrm : rmOk rm rm' (mN M')) (hn : As.length = n) (hcs : cells + rm'.cells ≤ rm.cells) (hsl : slots + rm'.slots ≤ rm.slots)
    (hM : CS G V M' cc' rm' As s lo f (fun _ => False)) (hst : st = As.reverse ++ rest) (hrest : (rest.map fun v => v.category).sum ≤ 8)
    (kk : ∀ (v : Option Value) (s' : sgT), f v s' → RW G M cc rm QF (pc + 3) L (v.toList ++ rest) (wS G V s' lo) (cells + rm'.cells) (slots + rm'.slots)) : RW G M cc rm QF pc L st (wS G V s lo) cells slots := by
  subst hst
  refine rCall (mc := rm'.cells) (ms := rm'.slots) (rest := rest) (post := fun v w => ∃ s' : sgT, w = wS G V s' lo ∧ f v s') ?_ (fun v w h => ?_)
  · refine rRunS hd hh hk hi hlk hrm hn hrest hcs hsl ?_
    have e : (fun (E : String) (w : va_W) => w = wS G V s lo ∧ (fun _ : String => False) E) = fun _ _ => False := by
      funext E w
      simp
    have h9 := hM
    unfold CS at h9
    rw [e] at h9
    exact h9
  · obtain ⟨s', rfl, h⟩ := h
    exact kk v s' h
theorem sCallSX (hh0 : mH M = []) (hd : decode cc pc = .ok (.invokestatic idx, 3)) (hh : mH M' = []) (hk : mOK M' cc' n) (hi : Cond.static (mY M') ∈ gWds) (hlk : lLk (mO M) idx M') (hrm : rmOk rm rm' (mN M')) (hn : As.length = n) (hcs : cells + rm'.cells ≤ rm.cells) (hsl : slots + rm'.slots ≤ rm.slots)
    (hM : CS G V M' cc' rm' As s lo f g) (hst : st = As.reverse ++ rest) (hrest : (rest.map fun v => v.category).sum ≤ 8) (hs0 : s = s0) (hx : ∀ E, g E → g0 E)
    (kk : ∀ (v : Option Value) (s' : sgT), f v s' → RW G M cc rm (QS G V s0 lo f0 g0 rm) (pc + 3) L (v.toList ++ rest) (wS G V s' lo) (cells + rm'.cells) (slots + rm'.slots)) : RW G M cc rm (QS G V s0 lo f0 g0 rm) pc L st (wS G V s lo) cells slots := by
  subst hst
  subst hs0
  refine rCallX hh0 (rRunS hd hh hk hi hlk hrm hn hrest hcs hsl hM) hcs hsl (fun E w h => ⟨h.1, hx E h.2⟩) (fun v w h => ?_)
  obtain ⟨s', rfl, h⟩ := h
  exact kk v s' h
theorem sIret {v : Int32} {ty : FieldType} (hd : decode cc pc = .ok (.ireturn, 1)) (hr : mR M = some ty) (hn : narrow ty (.int v) = .int v) (hcs : cells ≤ rm.cells) (hsl : slots ≤ rm.slots) (hp : f (some (.int v)) s) : RW G M cc rm (QS G V s0 lo f g rm) pc L [.int v] (wS G V s lo) cells slots := rIret hd hr hn hcs hsl ⟨s, rfl, hp⟩
theorem sVret (hd : decode cc pc = .ok (.return_, 1)) (hr : mR M = none) (hcs : cells ≤ rm.cells) (hsl : slots ≤ rm.slots) (hp : f none s) : RW G M cc rm (QS G V s0 lo f g rm) pc L [] (wS G V s lo) cells slots := rVret hd hr hcs hsl ⟨s, rfl, hp⟩
theorem sAret {C : String} (hd : decode cc pc = .ok (.areturn, 1)) (hr : mR M = some (.object C)) (hcs : cells ≤ rm.cells) (hsl : slots ≤ rm.slots) (hp : f (some (.ref (ad V a))) s) : RW G M cc rm (QS G V s0 lo f g rm) pc L [.ref (ad V a)] (wS G V s lo) cells slots := rAret hd hr hcs hsl ⟨s, rfl, hp⟩
theorem sThrow {ik is ic : Nat} {cls text : String} (hfl : (gl G).stackTraces = false) (hh : mH M = []) (hx : xLk (mO M) ik is ic cls text) (d0 : decode cc pc = .ok (.new ik, 3)) (d3 : decode cc (pc + 3) = .ok (.dup, 1)) (d4 : decode cc (pc + 4) = .ok (.ldc is, 2)) (d6 : decode cc (pc + 6) = .ok (.invokespecial ic, 3)) (d9 : decode cc (pc + 9) = .ok (.athrow, 1)) (hf : 5 < rm.frames) (hl : (rest.map fun v => v.category).sum + 82 ≤ rm.locals) (hcs : cells + 1 ≤ rm.cells) (hsl : slots + 6 ≤ rm.slots) (hs0 : s = s0) (hp : g cls) : RW G M cc rm (QS G V s0 lo f g rm) pc L rest (wS G V s lo) cells slots := by
  subst hs0
  exact rThrow hfl hh hx d0 d3 d4 d6 d9 hf hl hcs hsl ⟨rfl, hp⟩
end gSC
