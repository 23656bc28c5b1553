/-- a method's own facts: its code word, its class, its parameters -/
def mOK (M : mT) (cc : ByteArray) (n : Nat) : Prop := gHd M cc ∈ gWds ∧ Cond.initialized (mO M) ∈ gWds ∧ (mO M ≠ "java/lang/invoke/MethodHandle" ∧ mO M ≠ "java/lang/invoke/VarHandle") ∧ (parseMethodDescriptor M.2.2.1).map (fun d => d.parameters.length) = some n ∧ plainName (mO M) = true
def mInst (M : mT) : Prop := Cond.instanceMethod (mY M) ∈ gWds ∧ Cond.selects (mO M) (mY M) (mY M) ∈ gWds
/-- a method's entry in the pool of the class own -/
def lLk (own : String) (idx : Nat) (M : mT) : Prop := Cond.methodLink own idx (mY M) ∈ gWds ∨ ∃ host : String, Cond.methodLinkNest own idx (mY M) host ∈ tables_1
def rmOk (rm rm' : Room) (nL : Nat) : Prop := rm'.frames + 1 ≤ rm.frames ∧ 8 + (nL + 11) + rm'.locals ≤ rm.locals
theorem gWds_good {w : Cond} (h : w ∈ gWds) : (w.onTables && w.keeps) = true ∨ ∃ ty, w = .arrayClass ty := good_of_word (List.mem_filter.mp h).2
theorem gWds_in {M : mT} {cc : ByteArray} (h : gHd M cc ∈ gWds) : GoodIn gWds (gHd M cc :: gWds) := by
  intro w hw
  rcases List.mem_cons.mp hw with e | hw
  · rw [e]; exact ⟨h, gWds_good h⟩
  · exact ⟨hw, gWds_good hw⟩
theorem gHd_nil {M : mT} {cc : ByteArray} (h : mH M = []) : gHd M cc = .code (mY M) cc (mN M) (mR M) := by unfold gHd; rw [h]
theorem gHd_cons {M : mT} {cc : ByteArray} (h : mH M ≠ []) : gHd M cc = .codeWith (mY M) cc (mN M) (mR M) (mH M) := by
  unfold gHd
  cases hh : mH M with
  | nil => exact absurd hh h
  | cons a b => rfl
theorem gPreU {G : gG} {ws : va_W} {s : State} {H : Heap} {locs : List Loc} (hsf : gSF G s) (hsh : gSH G s s.heap) (hP : va_P (gD G) vwCl ws H) (hD : va_D (gA G) ws) (hS : va_S (gA G) s.heap H locs) : ∀ U : State, U.heap = H → s.WarmedH U.vm → gPre G ws U := by
  intro U hU hW
  refine ⟨gSF.warm hW hsf, ?_, by rw [hU]; exact hP, hD⟩
  rw [hU]
  exact gSH.moved hW.alike (hsh.kept hS.1 hS.2.1)
/-- a call that runs: what it comes to, as the kit says it -/
def gRun (G : gG) (M : mT) (cc : ByteArray) (rm : Room) (pc : Nat) (L : List (Option Value)) (st rest : List Value) (ws : va_W) (cells slots mc ms : Nat) (post : Option Value → va_W → Prop) (px : String → va_W → Prop) : Prop :=
  ∀ (p : Program) (e : Env) (s : State) (m : MethodId) (args : Array Value) (below : List Frame) (meth : Method) (c : Code) (H : Heap) (locs : List Loc) (ls : Array Slot),
    gFix G M cc p s m args meth c → va_P (gD G) vwCl ws H → va_D (gA G) ws → va_S (gA G) s.heap H locs → gL L (mN M) ls →
    vx_Run p (gl G) e rm s m args below meth c H locs cells slots mc ms (F0 m pc ls st) rest (fun st0 o t => gQ G post #[] st0 o t) (gX G px) (gA G)
theorem gCat {rest : List Value} (h : (rest.map fun v => v.category).sum ≤ 8) {m : MethodId} {pc : Nat} {ls : Array Slot} {st : List Value} : 2 * (F0 m pc ls st).monitorRoom + (rest.map fun v => v.category).sum ≤ 8 := by
  have e : (F0 m pc ls st).monitorRoom = 0 := rfl
  rw [e]; omega
section gCalls
variable {G : gG} {M : mT} {cc : ByteArray} {rm : Room} {QF : Array Value → State → List Frame → State → Prop} {pc : Nat} {L : List (Option Value)} {st rest : List Value} {ws : va_W} {cells slots : Nat} {a : Nat}
variable {M' : mT} {cc' : ByteArray} {rm' : Room} {As : List Value} {post : Option Value → va_W → Prop} {px : String → va_W → Prop} {idx n ci : Nat} {C : String} {T : u_T} {N : Nat} {fs : List Value}
theorem rRunV (hd : decode cc pc = .ok (.invokevirtual idx, 3)) (hh : mH M' = []) (hk : mOK M' cc' n) (hi : mInst M') (hlk : lLk (mO M) idx M') (hrm : rmOk rm rm' (mN M')) (q : Nat) (he : ws[q]? = some (a, .inr (ci, fs))) (hc : vwCl[ci]? = some (mO M', T, N)) (hn : As.length = n) (hrest : (rest.map fun v => v.category).sum ≤ 8) (hcs : cells + rm'.cells ≤ rm.cells) (hsl : slots + rm'.slots ≤ rm.slots)
    (hM : CT G M' cc' rm' (.ref a :: As) ws post px) : gRun G M cc rm pc L (As.reverse ++ .ref a :: rest) rest ws cells slots rm'.cells rm'.slots post px := by
  intro p e s m args below meth c H locs ls hF hP hD hS hL
  obtain ⟨h1, h2, h3, h4, h5, h6, h7, h8, h9, hsf, hsh⟩ := id hF
  obtain ⟨k1, k2, k3, k4, k5⟩ := hk
  have hcw := gHd_nil (cc := cc') hh
  have hpre : PreV s H (mO M') a (va_Pc (.ref a :: As) (gPre G ws)) As := ⟨gPre.blind, va_recv hsf.2.1 hP hc he, fun U hU hW => ⟨rfl, gPreU hsf hsh hP hD hS U hU hW⟩⟩
  rcases hlk with hlk | ⟨host, hlk⟩
  · exact vx_runV (own := mO M) (C := mO M') (index := idx) (bytes := cc') (maxL := mN M') (ret := mR M') (n := n) (Ts := gWds) ⟨h1, h2, h4, h5, h6⟩ hM ⟨callB_of n h6 (gWds_in k1) (by rw [hcw]) rfl rfl (h6 _ k2) (h6 _ hlk) ⟨k3.1, k3.2, k4⟩ hrm, h6 _ hi.1, h6 _ hi.2⟩ hpre rfl hn hL.1 rfl (gCat hrest) hd ⟨hcs, hsl⟩
  · exact vx_runVN (own := mO M) (C := mO M') (index := idx) (host := host) (bytes := cc') (maxL := mN M') (ret := mR M') (n := n) (Ts := gWds) ⟨h1, h2, h4, h5, h6⟩ hM ⟨va_cnB n h6 (gWds_in k1) (by rw [hcw]) rfl rfl (hsf.1 _ hlk rfl) (h6 _ k2) ⟨k3.1, k3.2, k4⟩ hrm, h6 _ hi.1, h6 _ hi.2⟩ hpre rfl hn hL.1 rfl (gCat hrest) hd ⟨hcs, hsl⟩
theorem rRunS (hd : decode cc pc = .ok (.invokestatic idx, 3)) (hh : mH M' = []) (hk : mOK M' cc' n) (hi : Cond.static (mY M') ∈ gWds) (hlk : lLk (mO M) idx M') (hrm : rmOk rm rm' (mN M')) (hn : As.length = n) (hrest : (rest.map fun v => v.category).sum ≤ 8) (hcs : cells + rm'.cells ≤ rm.cells) (hsl : slots + rm'.slots ≤ rm.slots)
    (hM : CT G M' cc' rm' As ws post px) : gRun G M cc rm pc L (As.reverse ++ rest) rest ws cells slots rm'.cells rm'.slots post px := by
  intro p e s m args below meth c H locs ls hF hP hD hS hL
  obtain ⟨h1, h2, h3, h4, h5, h6, h7, h8, h9, hsf, hsh⟩ := id hF
  obtain ⟨k1, k2, k3, k4, k5⟩ := hk
  have hcw := gHd_nil (cc := cc') hh
  have hpre : PreS s H (va_Pc As (gPre G ws)) As := ⟨gPre.blind, fun U hU hW => ⟨rfl, gPreU hsf hsh hP hD hS U hU hW⟩⟩
  rcases hlk with hlk | ⟨host, hlk⟩
  · exact vx_runS (As := As) (rest := rest) (own := mO M) (index := idx) (bytes := cc') (maxL := mN M') (ret := mR M') (n := n) (Ts := gWds) ⟨h1, h2, h4, h5, h6⟩ hM ⟨callB_of n h6 (gWds_in k1) (by rw [hcw]) rfl rfl (h6 _ k2) (h6 _ hlk) ⟨k3.1, k3.2, k4⟩ hrm, h6 _ hi⟩ hpre rfl hn hL.1 rfl (gCat hrest) hd ⟨hcs, hsl⟩
  · exact vx_runSN (As := As) (rest := rest) (own := mO M) (index := idx) (host := host) (bytes := cc') (maxL := mN M') (ret := mR M') (n := n) (Ts := gWds) ⟨h1, h2, h4, h5, h6⟩ hM ⟨va_cnB n h6 (gWds_in k1) (by rw [hcw]) rfl rfl (hsf.1 _ hlk rfl) (h6 _ k2) ⟨k3.1, k3.2, k4⟩ hrm, h6 _ hi, trivial⟩ hpre rfl hn hL.1 rfl (gCat hrest) hd ⟨hcs, hsl⟩
theorem rRunSW (hd : decode cc pc = .ok (.invokestatic idx, 3)) (hh : mH M' ≠ []) (hk : mOK M' cc' n) (hi : Cond.static (mY M') ∈ gWds) (hlk : Cond.methodLink (mO M) idx (mY M') ∈ gWds) (hrm : rmOk rm rm' (mN M')) (hn : As.length = n) (hrest : (rest.map fun v => v.category).sum ≤ 8) (hcs : cells + rm'.cells ≤ rm.cells) (hsl : slots + rm'.slots ≤ rm.slots)
    (hM : CT G M' cc' rm' As ws post px) : gRun G M cc rm pc L (As.reverse ++ rest) rest ws cells slots rm'.cells rm'.slots post px := by
  intro p e s m args below meth c H locs ls hF hP hD hS hL
  obtain ⟨h1, h2, h3, h4, h5, h6, h7, h8, h9, hsf, hsh⟩ := id hF
  obtain ⟨k1, k2, k3, k4, k5⟩ := hk
  have hcw := gHd_cons (cc := cc') hh
  have hpre : PreS s H (va_Pc As (gPre G ws)) As := ⟨gPre.blind, fun U hU hW => ⟨rfl, gPreU hsf hsh hP hD hS U hU hW⟩⟩
  have hG : GoodIn gWds (va_wsS (mO M) idx (mY M') (gHd M' cc' :: gWds)) := by
    intro w hw
    rcases List.mem_append.mp hw with hw | hw
    · rcases List.mem_cons.mp hw with e9 | hw
      · rw [e9]; exact ⟨hlk, gWds_good hlk⟩
      · rcases List.mem_cons.mp hw with e9 | hw
        · rw [e9]; exact ⟨hi, gWds_good hi⟩
        · rcases List.mem_cons.mp hw with e9 | hw
          · rw [e9]; exact ⟨k2, gWds_good k2⟩
          · cases hw
    · exact gWds_in k1 w hw
  exact vx_runSX (As := As) (rest := rest) (own := mO M) (index := idx) (bytes := cc') (maxL := mN M') (ret := mR M') (hh := mH M') (n := n) (Ts := gWds) ⟨h1, h2, h4, h5, h6⟩ hM (vx_cwSW n h6 hG (by rw [hcw]) rfl rfl ⟨k3.1, k3.2, k4⟩ hrm) hpre rfl hn hL.1 rfl (gCat hrest) hd ⟨hcs, hsl⟩
theorem rRunI (hd : decode cc pc = .ok (.invokespecial idx, 3)) (hh : mH M' = []) (hnm : M'.2.1 = "<init>") (hrt : mR M' = none) (hk : mOK M' cc' n) (hi : Cond.instanceMethod (mY M') ∈ gWds) (hlk : lLk (mO M) idx M') (hrm : rmOk rm rm' (mN M')) (hn : As.length = n) (hrest : (rest.map fun v => v.category).sum ≤ 8) (hcs : cells + rm'.cells ≤ rm.cells) (hsl : slots + rm'.slots ≤ rm.slots)
    (hM : CT G M' cc' rm' (.ref a :: As) ws post px) : gRun G M cc rm pc L (As.reverse ++ .ref a :: rest) rest ws cells slots rm'.cells rm'.slots post px := by
  intro p e s m args below meth c H locs ls hF hP hD hS hL
  obtain ⟨h1, h2, h3, h4, h5, h6, h7, h8, h9, hsf, hsh⟩ := id hF
  obtain ⟨k1, k2, k3, k4, k5⟩ := hk
  have hcw := gHd_nil (cc := cc') hh
  rw [hrt] at hcw
  have hpre : PreS s H (va_Pc (.ref a :: As) (gPre G ws)) (.ref a :: As) := ⟨gPre.blind, fun U hU hW => ⟨rfl, gPreU hsf hsh hP hD hS U hU hW⟩⟩
  rcases hlk with hlk | ⟨host, hlk⟩
  · exact vx_runI (own := mO M) (index := idx) (bytes := cc') (maxL := mN M') (n := n) (Ts := gWds) ⟨h1, h2, h4, h5, h6⟩ hM ⟨callB_of n h6 (gWds_in k1) (by rw [hcw]) rfl rfl (h6 _ k2) (h6 _ hlk) ⟨k3.1, k3.2, k4⟩ hrm, hnm, h6 _ hi⟩ hpre rfl hn hL.1 rfl (gCat hrest) hd ⟨hcs, hsl⟩
  · exact vx_runIN (own := mO M) (index := idx) (host := host) (bytes := cc') (maxL := mN M') (n := n) (Ts := gWds) ⟨h1, h2, h4, h5, h6⟩ hM ⟨va_cnB n h6 (gWds_in k1) (by rw [hcw]) rfl rfl (hsf.1 _ hlk rfl) (h6 _ k2) ⟨k3.1, k3.2, k4⟩ hrm, hnm, h6 _ hi⟩ hpre rfl hn hL.1 rfl (gCat hrest) hd ⟨hcs, hsl⟩
/-- behind a call that throws nothing -/
theorem rCall {mc ms : Nat} (hr : gRun G M cc rm pc L st rest ws cells slots mc ms post (fun _ _ => False)) (kk : ∀ (v : Option Value) (w : va_W), post v w → RW G M cc rm QF (pc + 3) L (v.toList ++ rest) w (cells + mc) (slots + ms)) : RW G M cc rm QF pc L st ws cells slots := by
  intro p e s m args below meth c H locs ls hF hP hD hS hL T hT X
  rcases hr p e s m args below meth c H locs ls hF hP hD hS hL T hT X with ⟨v, st₀, t, T', L9, h0, X', hL9, e1, e2, ⟨⟨v', w, hv, hp, hP1, hD1⟩, hFr⟩, stp⟩ | ⟨q, st₀, t, T', L9, E, ce, h0, X', hL9, e1, e2, ⟨⟨w, hw, -⟩, -⟩, -⟩
  · cases hv
    obtain ⟨k1, k2, k3⟩ := vx_keep h0 e1 hS (fun _ _ h => h) (fun _ h => h) hL9 hFr
    obtain ⟨t2, a1, b1⟩ := kk v w hp p e s m args below meth c T'.heap (locs ++ L9) ls hF (by rw [e1]; exact hP1) hD1 k3 hL T' rfl X'
    exact ⟨t2, stp t2 a1, b1⟩
  · exact hw.elim
/-- behind a call that may throw: what is thrown goes on to this method's caller -/
theorem rCallX {mc ms : Nat} {post' : Option Value → va_W → Prop} {px' : String → va_W → Prop} (hh : mH M = []) (hr : gRun G M cc rm pc L st rest ws cells slots mc ms post px) (hcs : cells + mc ≤ rm.cells) (hsl : slots + ms ≤ rm.slots) (hx : ∀ (E : String) (w : va_W), px E w → px' E w) (kk : ∀ (v : Option Value) (w : va_W), post v w → RW G M cc rm (gQF G post' px' rm) (pc + 3) L (v.toList ++ rest) w (cells + mc) (slots + ms)) : RW G M cc rm (gQF G post' px' rm) pc L st ws cells slots := by
  intro p e s m args below meth c H locs ls hF hP hD hS hL T hT X
  have hF' := hF
  obtain ⟨h1, h2, h3, h4, h5, h6, h7, h8, h9, hsf, hsh⟩ := hF'
  rcases hr p e s m args below meth c H locs ls hF hP hD hS hL T hT X with ⟨v, st₀, t, T', L9, h0, X', hL9, e1, e2, ⟨⟨v', w, hv, hp, hP1, hD1⟩, hFr⟩, stp⟩ | ⟨q, st₀, t, T', L9, E, ce, h0, X', hL9, e1, e2, ⟨⟨w, hw, hP1, hD1⟩, hFr⟩, hce, hcv, hcl, stp⟩
  · cases hv
    obtain ⟨k1, k2, k3⟩ := vx_keep h0 e1 hS (fun _ _ h => h) (fun _ h => h) hL9 hFr
    obtain ⟨t2, a1, b1⟩ := kk v w hp p e s m args below meth c T'.heap (locs ++ L9) ls hF (by rw [e1]; exact hP1) hD1 k3 hL T' rfl X'
    exact ⟨t2, stp t2 a1, b1⟩
  · obtain ⟨k1, k2, k3⟩ := vx_keep h0 e1 hS (fun _ _ h => h) (fun _ h => h) hL9 hFr
    have hout : ∀ x ∈ c.exceptionTable.toList, covers x pc = false := by
      intro x hxm
      rw [h8, hh] at hxm
      cases hxm
    have hXC : ∀ t9 : State, t9.heap = T'.heap → s.vm.Alike t9.vm → gX G px' E s t9 := by
      intro t9 ht9 _
      exact ⟨⟨w, hx E w hw, by rw [ht9, e1]; exact hP1, hD1⟩, va_S.F k3 ht9⟩
    obtain ⟨t2, a1, b1⟩ := vx_out (Qc := gQ G post') (XC := gX G px') (free := gA G) (mc := rm.cells) (ms := rm.slots) (ls := ls) (rest := rest) (pc := pc) hout h7 (by rw [e1]; exact hce) hcv hcl hXC (fun z hz => k3.2.2 z hz) hcs hsl T' rfl X'
    exact ⟨t2, stp.trans a1, b1⟩
/-- behind a call whose throws this method catches, by the row x of its table -/
theorem rCallC {mc ms : Nat} (hr : gRun G M cc rm pc L st rest ws cells slots mc ms post px)
    (hx : ∀ (E : String) (w : va_W), px E w → ∃ (pre suf : List (Nat × Nat × Nat × Nat)) (x : Nat × Nat × Nat × Nat) (nm : String), mH M = pre ++ x :: suf ∧ (∀ z ∈ pre, z.2.2.2 ≠ 0 ∧ ∃ nz : String, Cond.classLink (mO M) z.2.2.2 nz ∈ gWds ∧ (E, nz) ∈ ncL) ∧ (x.1 ≤ pc ∧ pc < x.2.1) ∧ x.2.2.2 ≠ 0 ∧ Cond.classLink (mO M) x.2.2.2 nm ∈ gWds ∧ Cond.castable E nm ∈ tables_1 ∧ ∀ q : Nat, RW G M cc rm QF x.2.2.1 L [.ref q] w (cells + mc) (slots + ms))
    (kk : ∀ (v : Option Value) (w : va_W), post v w → RW G M cc rm QF (pc + 3) L (v.toList ++ rest) w (cells + mc) (slots + ms)) : RW G M cc rm QF pc L st ws cells slots := by
  intro p e s m args below meth c H locs ls hF hP hD hS hL T hT X
  have hF' := hF
  obtain ⟨h1, h2, h3, h4, h5, h6, h7, h8, h9, hsf, hsh⟩ := hF'
  rcases hr p e s m args below meth c H locs ls hF hP hD hS hL T hT X with ⟨v, st₀, t, T', L9, h0, X', hL9, e1, e2, ⟨⟨v', w, hv, hp, hP1, hD1⟩, hFr⟩, stp⟩ | ⟨q, st₀, t, T', L9, E, ce, h0, X', hL9, e1, e2, ⟨⟨w, hw, hP1, hD1⟩, hFr⟩, hce, hcv, hcl, stp⟩
  · cases hv
    obtain ⟨k1, k2, k3⟩ := vx_keep h0 e1 hS (fun _ _ h => h) (fun _ h => h) hL9 hFr
    obtain ⟨t2, a1, b1⟩ := kk v w hp p e s m args below meth c T'.heap (locs ++ L9) ls hF (by rw [e1]; exact hP1) hD1 k3 hL T' rfl X'
    exact ⟨t2, stp t2 a1, b1⟩
  · obtain ⟨k1, k2, k3⟩ := vx_keep h0 e1 hS (fun _ _ h => h) (fun _ h => h) hL9 hFr
    obtain ⟨pre, suf, x, nm, r1, r2, r3, r4, r5, r6, r7⟩ := hx E w hw
    have hsplit : c.exceptionTable.toList = tableOf pre ++ ⟨x.1, x.2.1, x.2.2.1, x.2.2.2⟩ :: tableOf suf := by
      rw [h8, r1]
      simp [tableOf]
    have hpass : ∀ z ∈ tableOf pre, covers z pc = false ∨ (z.catchType ≠ 0 ∧ ∃ nz : String, (Cond.classLink (mO M) z.catchType nz).before args s = true ∧ va_Nc E nz s) := by
      intro z hz
      obtain ⟨y, hy, rfl⟩ := List.mem_map.mp hz
      obtain ⟨y1, nz, y2, y3⟩ := r2 y hy
      exact Or.inr ⟨y1, nz, h6 _ y2, hsf.2.2.2.1 _ y3⟩
    obtain ⟨t2, a1, b1⟩ := vx_catch (own := mO M) (name := nm) (ls := ls) (rest := rest) (pc := pc) (p := p) (e := e) (R := rm) (below := below) (locs := locs ++ L9) (cells := cells + mc) (slots := slots + ms) (Q := QF args s below) h5 (tableOf pre) ⟨x.1, x.2.1, x.2.2.1, x.2.2.2⟩ (tableOf suf) hsplit hpass (by simp [covers]; omega) r4 (h6 _ r5) (va_Nw.use rfl (hsf.1 _ r6 rfl)) (H := T'.heap) (by rw [e1]; exact hce) hcv hcl
      (r7 q p e s m args below meth c T'.heap (locs ++ L9) ls hF (by rw [e1]; exact hP1) hD1 k3 hL) T' rfl X'
    exact ⟨t2, stp.trans a1, b1⟩
theorem rObjInit (hd : decode cc pc = .ok (.invokespecial idx, 3)) (hlk : Cond.methodLink (mO M) idx objectInit ∈ gWds) (hin : Cond.instanceMethod objectInit ∈ gWds) (hco : Cond.code objectInit ⟨#[0xb1]⟩ 1 none ∈ gWds) (hf : 1 ≤ rm.frames) (hl : (st.map fun v => v.category).sum + 12 ≤ rm.locals) (kk : RW G M cc rm QF (pc + 3) L st ws cells slots) : RW G M cc rm QF pc L (.ref a :: st) ws cells slots := by
  intro p e s m args below meth c H locs ls hF hP hD hS hL
  obtain ⟨h1, h2, h3, h4, h5, h6, h7, h8, h9, hsf, hsh⟩ := id hF
  refine W.objInit (g := F0 m pc ls (.ref a :: st)) h1 h2 h5 (h6 _ hlk) (h6 _ hin) (h6 _ hco) rfl (by rw [h4]; exact hL.1) rfl hd hf ?_ (kk p e s m args below meth c H locs ls hF hP hD hS hL)
  have e0 : (F0 m pc ls (.ref a :: st)).monitorRoom = 0 := rfl
  rw [e0]; omega
theorem rMin {x y : Int32} (hd : decode cc pc = .ok (.invokestatic idx, 3)) (hlk : Cond.methodLink (mO M) idx Lib.Math.min.name ∈ gWds) (hst : Cond.static Lib.Math.min.name ∈ gWds) (hini : Cond.initialized "java/lang/Math" ∈ gWds) (hco : Cond.code Lib.Math.min.name Lib.Math.min.code 2 (some .int) ∈ gWds) (hf : 1 ≤ rm.frames) (hl : (st.map fun v => v.category).sum + 13 ≤ rm.locals) (hcs : cells ≤ rm.cells) (hsl : slots ≤ rm.slots) (kk : RW G M cc rm QF (pc + 3) L (.int (if y < x then y else x) :: st) ws cells slots) : RW G M cc rm QF pc L (.int y :: .int x :: st) ws cells slots := by
  intro p e s m args below meth c H locs ls hF hP hD hS hL
  obtain ⟨h1, h2, h3, h4, h5, h6, h7, h8, h9, hsf, hsh⟩ := id hF
  exact va_mmin h1 h2 (by rw [h4]; exact hL.1.symm) h5 (h6 _ hlk) (h6 _ hst) (h6 _ hini) (h6 _ hco) hf hl hcs hsl hd (kk p e s m args below meth c H locs ls hF hP hD hS hL)
end gCalls
section gEnds
variable {G : gG} {M : mT} {cc : ByteArray} {rm : Room} {pc : Nat} {L : List (Option Value)} {ws : va_W} {cells slots : Nat} {post : Option Value → va_W → Prop} {px : String → va_W → Prop}
theorem rIret {v : Int32} {ty : FieldType} (hd : decode cc pc = .ok (.ireturn, 1)) (hr : mR M = some ty) (hn : narrow ty (.int v) = .int v) (hcs : cells ≤ rm.cells) (hsl : slots ≤ rm.slots) (hp : post (some (.int v)) ws) : RW G M cc rm (gQF G post px rm) pc L [.int v] ws cells slots := by
  intro p e s m args below meth c H locs ls hF hP hD hS hL
  obtain ⟨h1, h2, h3, h4, h5, h6, h7, h8, h9, hsf, hsh⟩ := id hF
  refine W.widen hcs hsl (vx_ret ?_)
  exact W.zret (Qc := gQ G post) h1 h2 (h3.trans hr) hn (fun t ht _ => ⟨⟨_, ws, rfl, hp, by rw [ht]; exact hP, hD⟩, va_S.F hS ht⟩) (fun q hq => hS.2.2 q hq) hd h7
theorem rVret (hd : decode cc pc = .ok (.return_, 1)) (hr : mR M = none) (hcs : cells ≤ rm.cells) (hsl : slots ≤ rm.slots) (hp : post none ws) : RW G M cc rm (gQF G post px rm) pc L [] ws cells slots := by
  intro p e s m args below meth c H locs ls hF hP hD hS hL
  obtain ⟨h1, h2, h3, h4, h5, h6, h7, h8, h9, hsf, hsh⟩ := id hF
  refine W.widen hcs hsl (vx_ret ?_)
  exact W.vret (Qc := gQ G post) h1 h2 (h3.trans hr) (fun t ht _ => ⟨⟨_, ws, rfl, hp, by rw [ht]; exact hP, hD⟩, va_S.F hS ht⟩) (fun q hq => hS.2.2 q hq) hd h7
theorem rAret {a : Nat} {C : String} (hd : decode cc pc = .ok (.areturn, 1)) (hr : mR M = some (.object C)) (hcs : cells ≤ rm.cells) (hsl : slots ≤ rm.slots) (hp : post (some (.ref a)) ws) : RW G M cc rm (gQF G post px rm) pc L [.ref a] ws cells slots := by
  intro p e s m args below meth c H locs ls hF hP hD hS hL
  obtain ⟨h1, h2, h3, h4, h5, h6, h7, h8, h9, hsf, hsh⟩ := id hF
  refine W.widen hcs hsl (vx_ret ?_)
  exact W.aret (Qc := gQ G post) h1 h2 (h3.trans hr) (Or.inl ⟨C, rfl⟩) (Or.inr ⟨a, rfl⟩) (fun t ht _ => ⟨⟨_, ws, rfl, hp, by rw [ht]; exact hP, hD⟩, va_S.F hS ht⟩) (fun q hq => hS.2.2 q hq) hd h7
/-- what a 'throw new X(text)' needs of the tables -/
def xLk (own : String) (ik is ic : Nat) (cls text : String) : Prop := Bundle.fit cls = true ∧ Cond.classLink own ik cls ∈ gWds ∧ Cond.initialized cls ∈ gWds ∧ own = RX6 ∧ Cond.stringRef RX6 is text ∈ tables_1 ∧ (∀ w ∈ (vx_atS own ic cls ["java/lang/RuntimeException", "java/lang/Exception"]).filter goodWord, w ∈ gWds) ∧ (∀ w ∈ (vx_atS own ic cls ["java/lang/RuntimeException", "java/lang/Exception"]).filter (fun w => !goodWord w), w ∈ tables_1 ∧ gIsN w = true) ∧ (∀ w ∈ Cond.classLink own ik cls :: Cond.initialized cls :: vx_atS own ic cls ["java/lang/RuntimeException", "java/lang/Exception"], vx_ot w = true)
theorem rThrow {ik is ic : Nat} {cls text : String} {rest : List Value} (hfl : (gl G).stackTraces = false) (hh : mH M = []) (hx : xLk (mO M) ik is ic cls text) (d0 : decode cc pc = .ok (.new ik, 3)) (d3 : decode cc (pc + 3) = .ok (.dup, 1)) (d4 : decode cc (pc + 4) = .ok (.ldc is, 2)) (d6 : decode cc (pc + 6) = .ok (.invokespecial ic, 3)) (d9 : decode cc (pc + 9) = .ok (.athrow, 1)) (hf : 5 < rm.frames) (hl : (rest.map fun v => v.category).sum + 82 ≤ rm.locals) (hcs : cells + 1 ≤ rm.cells) (hsl : slots + 6 ≤ rm.slots) (hp : px cls ws) : RW G M cc rm (gQF G post px rm) pc L rest ws cells slots := by
  intro p e s m args below meth c H locs ls hF hP hD hS hL
  obtain ⟨h1, h2, h3, h4, h5, h6, h7, h8, h9, hsf, hsh⟩ := id hF
  obtain ⟨x1, x2, x3, x4, x5, x6, x7, x8⟩ := hx
  have hat : ∀ w ∈ vx_atS (mO M) ic cls ["java/lang/RuntimeException", "java/lang/Exception"], w.before args s = true := by
    refine vx_hat (B := (vx_atS (mO M) ic cls ["java/lang/RuntimeException", "java/lang/Exception"]).filter (fun w => !goodWord w)) (fun w hw => h6 _ (x6 w hw)) (fun w hw => hw) (fun w hw => ?_)
    obtain ⟨y1, y2⟩ := x7 w hw
    exact va_Nw.use (gNw_tab y2) (hsf.1 _ y1 y2)
  have hstr : vk_R (mO M) is text (gsa G is) s := by rw [x4]; exact hsf.2.2.1 is text x5
  have hout : ∀ x ∈ c.exceptionTable.toList, covers x (pc + 9) = false := by
    intro x hxm
    rw [h8, hh] at hxm
    cases hxm
  exact vx_throwS (own := mO M) (cls := cls) (text := text) (names := ["java/lang/RuntimeException", "java/lang/Exception"]) (A := gA G) h1 h2 hfl h5 x1 (by decide +kernel) (h6 _ x2) (h6 _ x3) hstr hat x8 hsh.1 hsh.2.1 hS (by rw [h4]; exact hL.1) d0 d3 d4 d6 d9 hout hf (by simpa using hl) hcs hsl h7
    (fun t _ hz hk => ⟨⟨ws, hp, va_P.kept hP (fun k q hq => hk q.1 (hP k q hq).lt), hD⟩, ⟨Nat.le_trans hS.1 hz, fun q h1' h2' => by rw [hk q (Nat.lt_of_lt_of_le h1' hS.1)]; exact hS.2.1 q h1' h2'⟩⟩) (fun q hq => hS.2.2 q hq) hcs hsl
end gEnds
/-- the locals at a method's entry -/
def gEnt (vs : List Value) (n : Nat) : List (Option Value) := vs.map some ++ List.replicate (n - vs.length) none
theorem gEnt_has {vs : List Value} {n : Nat} (h1 : ∀ v ∈ vs, v.category = 1) (hn : vs.length ≤ n) : gL (gEnt vs n) n ((lg_sl vs ++ List.replicate (n - (lg_sl vs).length) Slot.unset).toArray) := by
  have e1 : ∀ vs : List Value, (∀ v ∈ vs, v.category = 1) → lg_sl vs = vs.map Slot.val := by
    intro vs
    induction vs with
    | nil => intro _; rfl
    | cons v vs ih =>
      intro h
      have hv : v.category = 1 := h v List.mem_cons_self
      have ih' := ih (fun w hw => h w (List.mem_cons_of_mem _ hw))
      show (v :: vs).flatMap _ = _
      rw [List.flatMap_cons]
      have : vs.flatMap (fun v => if v.category = 2 then [Slot.val v, Slot.second] else [Slot.val v]) = vs.map Slot.val := ih'
      rw [this, hv]
      rfl
  have hlen : (lg_sl vs).length = vs.length := by rw [e1 vs h1]; simp
  have hh := lv_entry vs (n := n) (by rw [hlen]; exact hn)
  refine ⟨hh.1, hh.2.1, fun i v hi => ?_⟩
  have hiv : vs[i]? = some v := by
    unfold gEnt at hi
    by_cases hl : i < vs.length
    · rw [List.getElem?_append_left (by simpa using hl), List.getElem?_map] at hi
      cases hq : vs[i]? with
      | none => rw [hq] at hi; cases hi
      | some w => rw [hq] at hi; cases hi; rfl
    · rw [List.getElem?_append_right (by simpa using hl)] at hi
      have := List.eq_of_mem_replicate (List.mem_of_getElem? hi)
      cases this
  refine ⟨h1 v (List.mem_of_getElem? hiv), ?_⟩
  rw [e1 vs h1]
  simp only [List.getElem?_toArray]
  rw [List.getElem?_append_left (by simpa using (List.getElem?_eq_some_iff.mp hiv).1), List.getElem?_map, hiv]
  rfl
/-- a contract out of the walk of a body without handlers -/
theorem CT.of {G : gG} {M : mT} {cc : ByteArray} {rm : Room} {vs : List Value} {ws : va_W} {post : Option Value → va_W → Prop} {px : String → va_W → Prop} (hh : mH M = []) (hpl : plainName (mO M) = true) (h1 : ∀ v ∈ vs, v.category = 1) (hn : vs.length ≤ mN M)
    (k : RW G M cc rm (gQF G post px rm) 0 (gEnt vs (mN M)) [] ws 0 0) : CT G M cc rm vs ws post px := by
  refine vx_ofW (y := mY M) (cc := cc) (maxL := mN M) (ret := mR M) (ws' := gWds) hpl (by rw [gHd_nil hh]) ?_
  intro p e s m args below meth c s₁ B hml hex hv
  obtain ⟨hargs, hsf, hsh, hP, hD⟩ := hv
  subst hargs
  rw [lg_entry_eq]
  have hts := atoms_spec (ws := gHd M cc :: gWds) B.pre
  have hown : s.vm.findClass (mO M) = some m.cls := findClass_of_methodNamed B.named
  exact k p e s m vs.toArray below meth c s.heap [] _ ⟨B.exec, B.bytes, B.returns, hml, hown, fun w hw => hts w (List.mem_cons_of_mem _ hw), B.notSynchronized, by
    rw [hh]
    exact List.eq_nil_iff_forall_not_mem.mpr (fun x hx => hex x hx), (name_of_methodNamed B.named B.method).1, hsf, hsh⟩ hP hD va_S.rf (gEnt_has h1 hn)
/-- .. of a body with handlers -/
theorem CT.ofH {G : gG} {M : mT} {cc : ByteArray} {rm : Room} {vs : List Value} {ws : va_W} {post : Option Value → va_W → Prop} {px : String → va_W → Prop} (hh : mH M ≠ []) (hpl : plainName (mO M) = true) (h1 : ∀ v ∈ vs, v.category = 1) (hn : vs.length ≤ mN M)
    (k : RW G M cc rm (gQF G post px rm) 0 (gEnt vs (mN M)) [] ws 0 0) : CT G M cc rm vs ws post px := by
  refine vx_ofWH (y := mY M) (cc := cc) (maxL := mN M) (ret := mR M) (hh := mH M) (ws' := gWds) hpl (by rw [gHd_cons hh]) ?_
  intro p e s m args below meth c s₁ B hml hv
  obtain ⟨hargs, hsf, hsh, hP, hD⟩ := hv
  subst hargs
  rw [lg_entry_eq]
  have hts := atoms_spec (ws := gHd M cc :: gWds) B.pre
  have hown : s.vm.findClass (mO M) = some m.cls := findClass_of_methodNamed B.named
  exact k p e s m vs.toArray below meth c s.heap [] _ ⟨B.exec, B.bytes, B.returns, hml, hown, fun w hw => hts w (List.mem_cons_of_mem _ hw), B.notSynchronized, vx_table (x := mY M) (y := mY M) B (by rw [← gHd_cons hh]; exact hts _ List.mem_cons_self), (name_of_methodNamed B.named B.method).1, hsf, hsh⟩ hP hD va_S.rf (gEnt_has h1 hn)
