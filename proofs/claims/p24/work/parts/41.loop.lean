/-! the law's body: its end, its words (the skeleton's texts among them) -/
/-! THE CLAIM OUT OF ONE WALK OF THE LAW'S BODY. Your part is whole_start (and what it stands on); all else here is the same for every law, but numbers. -/
def R_law : String := "GladehallLaw"
def lw_P (b : Addr) (xs : List Int32) (args : Array Value) (s : State) : Prop := args = #[.ref b] ∧ s.IntsAt b xs ∧ xs.length ≤ 260 ∧ (Jvm.Cond.and given_1 narrow_1).before args s = true
def lw_Q (_ : Array Value) (s : State) (o : Outcome) (t : State) : Prop := o = .returned (some (.int 1)) ∧ Framed s o t [] 663166 7111684
def lw_Z (below : List Frame) (a : Array Value) (s : State) : State → Prop := fun t => ∃ o, t.status = .running ∧ Ended t below o ∧ lw_Q a s o t
/-- the law's own end, with 1 on the stack, nothing written that was there before, its room as the claim has it -/
theorem lw_ret {p : Program} {l : Launch} {e : Env} {s : State} {m : MethodId} {below : List Frame} {meth : Method} {c : Code} {b : Nat} (hx : p.tables.exec = Jvm.exec) (hb : c.code = code) (hr : meth.sig.returnType = ret) (hlocks : meth.locks = false) {pc : Nat} {H : Heap} {ls : Array Slot} (hdg : decode code pc = .ok (.ireturn, 1)) : W p l e room_1 s m #[Value.ref b] below meth c H [] 663166 7111684 (lw_Z below #[Value.ref b] s) (F0 m pc ls [.int 1]) := by
  intro T hT X
  obtain ⟨fs, hret, hrun, hended, hW, hframe⟩ := X.leave (v := some (.int 1)) (hlocks := hlocks) (fun h => by rw [hr] at h; cases h)
  have hmeth' : T.vm.method? m = some meth := X.method'
  refine ⟨T.setFrames fs, ?_, .returned (some (.int 1)), hrun, hended, rfl, ⟨_, rfl⟩, hW, hframe⟩
  jvm_step X.here [X.here.top, hx, hb, hdg, hmeth', hr, ret, narrow_b1]
  (try refine ⟨rfl, ?_⟩); (try refine ⟨rfl, ?_⟩)
  first | (intro acts; rw [hret _ acts rfl rfl rfl]) | rw [hret _ _ rfl rfl rfl]
  exact Steps.refl _
/-- what holds at the law's entry: the machine, the code, the tables' words (any of lw_tbl by 'hts w (by decide +kernel)'), the script of L ints xs at the cell b, what the Statement gives of the start (any of its parts by flat_of_before) -/
def lw_At (p : Program) (s : State) (m : MethodId) (meth : Method) (c : Code) (b L : Nat) (xs : Nat → Int32) : Prop :=
  p.tables.exec = Jvm.exec ∧ c.code = code ∧ meth.sig.returnType = ret ∧ c.maxLocals = 7 ∧ s.vm.findClass R_law = some m.cls ∧ (∀ w ∈ lw_tbl, w.before #[Value.ref b] s = true) ∧ va_X b L xs s s.heap ∧ b < s.heap.size ∧ meth.locks = false ∧ (Jvm.Cond.and given_1 narrow_1).before #[Value.ref b] s = true

/-- the law as a method; its name and its table are those of the machine -/
abbrev mLw (nm : String) (eh : List (Nat × Nat × Nat × Nat)) : mT := (RL, nm, "([I)Z", 7, ret, eh)
/-- where the law has ended -/
def QL (G : gG) : Array Value → State → List Frame → State → Prop := fun args s below t => (args = #[Value.ref (gsb G)] ∧ s.heap.size ≤ gb G) → lw_Z below args s t
theorem rLawRet {G : gG} {nm : String} {eh : List (Nat × Nat × Nat × Nat)} {pc : Nat} {L : List (Option Value)} {ws : va_W} {cells slots : Nat} (hd : decode code pc = .ok (.ireturn, 1)) (hc : cells ≤ 663166) (hs : slots ≤ 7111684) : RW G (mLw nm eh) code room_1 (QL G) pc L [.int 1] ws cells slots := by
  intro p e s m args below meth c H locs ls hF hP hD hS hL
  by_cases hq : args = #[Value.ref (gsb G)] ∧ s.heap.size ≤ gb G
  · obtain ⟨rfl, hz⟩ := hq
    intro T hT X
    obtain ⟨h1, h2, h3, h4, h5, h6, h7, h8, h9, hsf, hsh⟩ := id hF
    have K : W p (gl G) e room_1 s m #[Value.ref (gsb G)] below meth c H locs cells slots (lw_Z below #[Value.ref (gsb G)] s) (F0 m pc ls [.int 1]) := by
      refine va_forget (fun q hq => Nat.le_trans hz (hS.2.2 q hq)) ?_
      refine W.widen (k := 663166) (n := 7111684) hc hs ?_
      exact lw_ret h1 h2 h3 h7 hd
    obtain ⟨t, a, b⟩ := K T hT X
    exact ⟨t, a, fun _ => b⟩
  · intro T hT X
    exact ⟨_, Steps.refl _, fun h => absurd h hq⟩
set_option maxRecDepth 100000 in
set_option maxHeartbeats 4000000 in
theorem law_loop {G : gG} {V : wV} {nm : String} {eh : List (Nat × Nat × Nat × Nat)} {lo : Nat → Int64} (hL : gsL G ≤ 260) (ho : hallAt V 0) (hq : hallAt V 47) (hfl : (gl G).stackTraces = false) {s : sgT} {h : hT} (hw : W2 s h h) (hg : good h) : RW G (mLw nm eh) code room_1 (QL G) 21 [some (.ref (gsb G)), some (.ref (ad V 0)), some (.ref (ad V 47)), some (.int (nI 1)), some (.int (nI 0)), none, none] [] (wS G V s lo) 1000 10000 := by
  refine loopG (σ := sgT × hT) 1000 10000 3500 21000 110 (fun i _ => [some (.ref (gsb G)), some (.ref (ad V 0)), some (.ref (ad V 47)), some (.int (nI 1)), some (.int (nI i)), none, none]) (fun _ x => x.1) (fun i x => W2 x.1 x.2 x.2 ∧ good x.2) (s, h) ⟨hw, hg⟩ (fun i x hi hinv ih => ?_)
  obtain ⟨s, h⟩ := x
  obtain ⟨hw, hg⟩ := hinv
  show RW G _ _ _ _ 21 [some (.ref (gsb G)), some (.ref (ad V 0)), some (.ref (ad V 47)), some (.int (nI 1)), some (.int (nI i)), none, none] [] (wS G V s lo) (1000 + 3500 * i) (10000 + 21000 * i)
  refine rIload dL_law_21 rfl ?_
  refine rBipush (v := (nI (110))) dL_law_23 (by decide) ?_
  refine r_icmp_ge (tgt := 258) dL_law_25 (by decide) (fun c_25 => ?_) (fun c_25 => ?_)
  · have c_25 : 110 ≤ i := (nI_leI (by omega) (by omega)).mp c_25
    refine rIload_n dL_law_258 rfl ?_
    refine r_if_eq (tgt := 283) dL_law_259 (by decide) (fun c => absurd c (by decide)) (fun c => ?_)
    refine rAload_n dL_law_262 rfl ?_
    refine rAload_n dL_law_263 rfl ?_
    refine sCallSi (M' := mL_areAlike) (rm' := rmD 11 1530 9180) (As := [.ref (ad V 0), .ref (ad V 47)]) (rest := []) dL_law_264 rfl mk_L_areAlike ms_L_areAlike ll_L_113 ⟨(Nat.le_of_ble_eq_true rfl), (Nat.le_of_ble_eq_true rfl)⟩ rfl (by show 1000 + 3500 * i + 1530 ≤ 663166; omega) (by show 10000 + 21000 * i + 9180 ≤ 7111684; omega) (c_L_areAlike ho hq hw hg hfl) rfl (Nat.le_of_ble_eq_true rfl) (fun v s1 hv => ?_)
    obtain ⟨rfl, w1⟩ := hv
    refine RW.widen (k := 1000 + 3500 * i + 1530) (n := 10000 + 21000 * i + 9180) (by show 1000 + 3500 * i + 1530 ≤ _; omega) (by show 10000 + 21000 * i + 9180 ≤ _; omega) ?_
    show RW G _ _ _ _ 267 [some (.ref (gsb G)), some (.ref (ad V 0)), some (.ref (ad V 47)), some (.int (nI 1)), some (.int (nI i)), none, none] [.int (nI 1)] _ _ _
    refine r_if_eq (tgt := 283) dL_law_267 (by decide) (fun c => absurd c (by decide)) (fun c => ?_)
    refine rAload_n dL_law_270 rfl ?_
    refine rIconst (v := (nI (0))) dL_law_271 (by decide) ?_
    refine rIconst (v := (nI (1))) dL_law_272 (by decide) ?_
    refine sCallSi (M' := mL_isFoughtSo) (rm' := rmD 11 288 1728) (As := [.ref (ad V 0), .int (nI 0), .int (nI 1)]) (rest := []) dL_law_273 rfl mk_L_isFoughtSo ms_L_isFoughtSo ll_L_121 ⟨(Nat.le_of_ble_eq_true rfl), (Nat.le_of_ble_eq_true rfl)⟩ rfl (by show 1000 + 3500 * i + 1530 + 288 ≤ 663166; omega) (by show 10000 + 21000 * i + 9180 + 1728 ≤ 7111684; omega) (c_L_isFoughtSo ho w1.1 hg hfl (by decide) (by decide) (by decide)) rfl (Nat.le_of_ble_eq_true rfl) (fun v s2 hv => ?_)
    have w2 := w2_0 w1 hv
    obtain ⟨rfl, -, -⟩ := hv
    refine RW.widen (k := 1000 + 3500 * i + 1818) (n := 10000 + 21000 * i + 10908) (by show 1000 + 3500 * i + 1530 + 288 ≤ _; omega) (by show 10000 + 21000 * i + 9180 + 1728 ≤ _; omega) ?_
    show RW G _ _ _ _ 276 [some (.ref (gsb G)), some (.ref (ad V 0)), some (.ref (ad V 47)), some (.int (nI 1)), some (.int (nI i)), none, none] [.int (nI 1)] _ _ _
    refine r_if_eq (tgt := 283) dL_law_276 (by decide) (fun c => absurd c (by decide)) (fun c => ?_)
    refine rIconst (v := (nI (1))) dL_law_279 (by decide) ?_
    refine rGoto (tgt := 284) dL_law_280 (by decide) ?_
    refine tTop (w := (1)) (by decide) ?_
    exact rLawRet dL_law_284 (by show 1000 + 3500 * i + 1818 ≤ _; omega) (by show 10000 + 21000 * i + 10908 ≤ _; omega)
  · have c_25 : ¬ (110 ≤ i) := fun h => c_25 ((nI_leI (by omega) (by omega)).mpr h)
    refine rIload_n dL_law_28 rfl ?_
    refine r_if_eq (tgt := 258) dL_law_29 (by decide) (fun c => absurd c (by decide)) (fun c => ?_)
    refine rAload_n dL_law_32 rfl ?_
    refine rIload dL_law_33 rfl ?_
    refine rBipush (v := (nI (61))) dL_law_35 (by decide) ?_
    refine nIrem dL_law_37 (by omega) (by decide) (by decide) ?_
    refine sCallSp (M' := mL_cell) (rm' := rmD 1 0 0) (As := [.ref (gsb G), .int (nI (i % 61))]) (rest := []) dL_law_38 rfl mk_L_cell ms_L_cell ll_L_106 ⟨(Nat.le_of_ble_eq_true rfl), (Nat.le_of_ble_eq_true rfl)⟩ rfl (by show 1000 + 3500 * i + 0 ≤ 663166; omega) (by show 10000 + 21000 * i + 0 ≤ 7111684; omega) (c_L_cell (by omega) (by omega)) rfl (Nat.le_of_ble_eq_true rfl) (fun v hk => ?_)
    refine RW.widen (k := 1000 + 3500 * i + 0) (n := 10000 + 21000 * i + 0) (by show 1000 + 3500 * i + 0 ≤ _; omega) (by show 10000 + 21000 * i + 0 ≤ _; omega) ?_
    subst hk
    show RW G _ _ _ _ 41 [some (.ref (gsb G)), some (.ref (ad V 0)), some (.ref (ad V 47)), some (.int (nI 1)), some (.int (nI i)), none, none] [.int (cellV G (i % 61))] _ _ _
    refine rSipush (v := (nI (1301))) dL_law_41 (by decide) ?_
    refine rIload dL_law_44 rfl ?_
    refine rBipush (v := (nI (61))) dL_law_46 (by decide) ?_
    refine nIdiv dL_law_48 (by omega) (by decide) (by decide) ?_
    refine nImul dL_law_49 ?_
    refine rIadd dL_law_50 ?_
    obtain ⟨v, ev⟩ : ∃ v : Int32, v = (cellV G (i % 61)) + (nI (1301 * (i / 61))) := ⟨_, rfl⟩
    refine tTop (w := (v)) ev.symm ?_
    have K252 : ∀ (s : sgT) (h : hT), W2 s h h → good h → RW G (mLw nm eh) code room_1 (QL G) 252 [some (.ref (gsb G)), some (.ref (ad V 0)), some (.ref (ad V 47)), some (.int (nI 1)), some (.int (nI i)), some (.int v), none] [] (wS G V s lo) (1000 + 3500 * i + 3488) (10000 + 21000 * i + 20928) := by
      intro s h hw hg
      refine rIinc (v := (nI (i + 1))) dL_law_252 rfl (by first | exact nI_add _ _ | rfl) (Nat.le_of_ble_eq_true rfl) ?_
      show RW G _ _ _ _ 255 [some (.ref (gsb G)), some (.ref (ad V 0)), some (.ref (ad V 47)), some (.int (nI 1)), some (.int (nI (i + 1))), some (.int v), none] [] _ _ _
      refine rGoto (tgt := 21) dL_law_255 (by decide) ?_
      refine rForget (L := [some (.ref (gsb G)), some (.ref (ad V 0)), some (.ref (ad V 47)), some (.int (nI 1)), some (.int (nI (i + 1))), some (.int v), none]) (L' := [some (.ref (gsb G)), some (.ref (ad V 0)), some (.ref (ad V 47)), some (.int (nI 1)), some (.int (nI (i + 1))), none, none]) (by exact ⟨rfl, ⟨rfl, ⟨rfl, ⟨rfl, ⟨rfl, trivial⟩⟩⟩⟩⟩) ?_
      exact RW.widen (k := 1000 + 3500 * (i + 1)) (n := 10000 + 21000 * (i + 1)) (by omega) (by omega) (ih (by omega) (s, h) ⟨hw, hg⟩)
    have K209 : ∀ (s : sgT) (h : hT), W2 s h h → good h → RW G (mLw nm eh) code room_1 (QL G) 209 [some (.ref (gsb G)), some (.ref (ad V 0)), some (.ref (ad V 47)), some (.int (nI 1)), some (.int (nI i)), some (.int v), none] [] (wS G V s lo) (1000 + 3500 * i + 2928) (10000 + 21000 * i + 17568) := by
      intro s h hw hg
      refine rIload dL_law_209 rfl ?_
      refine rBipush (v := (nI (7))) dL_law_211 (by decide) ?_
      refine nIrem dL_law_213 (by omega) (by decide) (by decide) ?_
      refine rIconst (v := (nI (4))) dL_law_214 (by decide) ?_
      refine r_icmp_ne (tgt := 252) dL_law_215 (by decide) (fun c_215 => ?_) (fun c_215 => ?_)
      · have c_215 : ¬ ((i % 7) = 4) := fun h => c_215 ((nI_eq (by omega) (by omega)).mpr h)
        exact RW.widen (k := 1000 + 3500 * i + 3488) (n := 10000 + 21000 * i + 20928) (by show 1000 + 3500 * i + 2928 ≤ _; omega) (by show 10000 + 21000 * i + 17568 ≤ _; omega) (K252 _ _ hw hg)
      · have c_215 : (i % 7) = 4 := (nI_eq (by omega) (by omega)).mp c_215
        obtain ⟨j, lj, ej⟩ := and3 (shr v 6)
        refine rIload_n dL_law_218 rfl ?_
        refine r_if_eq (tgt := 250) dL_law_219 (by decide) (fun c => absurd c (by decide)) (fun c => ?_)
        refine rAload_n dL_law_222 rfl ?_
        refine rAload_n dL_law_223 rfl ?_
        refine rIload dL_law_224 rfl ?_
        refine rBipush (v := (nI (6))) dL_law_226 (by decide) ?_
        refine rIshr dL_law_228 ?_
        refine tTop (w := shr v 6) rfl ?_
        refine rIconst (v := (nI (3))) dL_law_229 (by decide) ?_
        refine rIand dL_law_230 ?_
        refine tTop (w := (nI (j))) ej ?_
        refine rIload dL_law_231 rfl ?_
        refine rBipush (v := (nI (9))) dL_law_233 (by decide) ?_
        refine rIshr dL_law_235 ?_
        refine tTop (w := shr v 9) rfl ?_
        refine rIconst (v := (nI (3))) dL_law_236 (by decide) ?_
        refine sCallSp (M' := mL_low) (rm' := rmD 1 0 0) (As := [.int (shr v 9), .int (nI 3)]) (rest := [.int (nI j), .ref (ad V 47), .ref (ad V 0)]) dL_law_237 rfl mk_L_low ms_L_low ll_L_56 ⟨(Nat.le_of_ble_eq_true rfl), (Nat.le_of_ble_eq_true rfl)⟩ rfl (by show 1000 + 3500 * i + 2928 + 0 ≤ 663166; omega) (by show 10000 + 21000 * i + 17568 + 0 ≤ 7111684; omega) (c_L_low (by decide) (by decide)) rfl (Nat.le_of_ble_eq_true rfl) (fun v hk => ?_)
        refine RW.widen (k := 1000 + 3500 * i + 2928) (n := 10000 + 21000 * i + 17568) (by show 1000 + 3500 * i + 2928 + 0 ≤ _; omega) (by show 10000 + 21000 * i + 17568 + 0 ≤ _; omega) ?_
        subst hk
        show RW G _ _ _ _ 240 [some (.ref (gsb G)), some (.ref (ad V 0)), some (.ref (ad V 47)), some (.int (nI 1)), some (.int (nI i)), some (.int v), none] [.int (nI (lowN (shr v 9) 3)), .int (nI j), .ref (ad V 47), .ref (ad V 0)] _ _ _
        obtain ⟨q, eq⟩ : ∃ q, q = lowN (shr v 9) 3 := ⟨_, rfl⟩
        have lq : q < 3 := by rw [eq]; exact lowN_lt (by decide)
        refine tTop (w := (nI (q))) (congrArg nI eq.symm) ?_
        refine sCallSi (M' := mL_isSoldSo) (rm' := rmD 12 560 3360) (As := [.ref (ad V 0), .ref (ad V 47), .int (nI j), .int (nI q)]) (rest := []) dL_law_240 rfl mk_L_isSoldSo ms_L_isSoldSo ll_L_129 ⟨(Nat.le_of_ble_eq_true rfl), (Nat.le_of_ble_eq_true rfl)⟩ rfl (by show 1000 + 3500 * i + 2928 + 560 ≤ 663166; omega) (by show 10000 + 21000 * i + 17568 + 3360 ≤ 7111684; omega) (c_L_isSoldSo ho hq hw hg hfl lj lq) rfl (Nat.le_of_ble_eq_true rfl) (fun v s1 hv => ?_)
        obtain ⟨rfl, h1, g1, w1⟩ := hv
        refine RW.widen (k := 1000 + 3500 * i + 3488) (n := 10000 + 21000 * i + 20928) (by show 1000 + 3500 * i + 2928 + 560 ≤ _; omega) (by show 10000 + 21000 * i + 17568 + 3360 ≤ _; omega) ?_
        show RW G _ _ _ _ 243 [some (.ref (gsb G)), some (.ref (ad V 0)), some (.ref (ad V 47)), some (.int (nI 1)), some (.int (nI i)), some (.int v), none] [.int (nI 1)] _ _ _
        refine r_if_eq (tgt := 250) dL_law_243 (by decide) (fun c => absurd c (by decide)) (fun c => ?_)
        refine rIconst (v := (nI (1))) dL_law_246 (by decide) ?_
        refine rGoto (tgt := 251) dL_law_247 (by decide) ?_
        refine rIstore_n dL_law_251 (Nat.le_of_ble_eq_true rfl) ?_
        show RW G _ _ _ _ 252 [some (.ref (gsb G)), some (.ref (ad V 0)), some (.ref (ad V 47)), some (.int (nI 1)), some (.int (nI i)), some (.int v), none] [] _ _ _
        exact RW.widen (k := 1000 + 3500 * i + 3488) (n := 10000 + 21000 * i + 20928) (by show 1000 + 3500 * i + 3488 ≤ _; omega) (by show 10000 + 21000 * i + 20928 ≤ _; omega) (K252 _ _ w1 g1)
    have K167 : ∀ (s : sgT) (h : hT), W2 s h h → good h → RW G (mLw nm eh) code room_1 (QL G) 167 [some (.ref (gsb G)), some (.ref (ad V 0)), some (.ref (ad V 47)), some (.int (nI 1)), some (.int (nI i)), some (.int v), none] [] (wS G V s lo) (1000 + 3500 * i + 2498) (10000 + 21000 * i + 14988) := by
      intro s h hw hg
      refine rIload dL_law_167 rfl ?_
      refine rIconst (v := (nI (5))) dL_law_169 (by decide) ?_
      refine nIrem dL_law_170 (by omega) (by decide) (by decide) ?_
      refine rIconst (v := (nI (2))) dL_law_171 (by decide) ?_
      refine r_icmp_ne (tgt := 209) dL_law_172 (by decide) (fun c_172 => ?_) (fun c_172 => ?_)
      · have c_172 : ¬ ((i % 5) = 2) := fun h => c_172 ((nI_eq (by omega) (by omega)).mpr h)
        exact RW.widen (k := 1000 + 3500 * i + 2928) (n := 10000 + 21000 * i + 17568) (by show 1000 + 3500 * i + 2498 ≤ _; omega) (by show 10000 + 21000 * i + 14988 ≤ _; omega) (K209 _ _ hw hg)
      · have c_172 : (i % 5) = 2 := (nI_eq (by omega) (by omega)).mp c_172
        obtain ⟨j, lj, ej⟩ := and3 (shr v 6)
        refine rIload_n dL_law_175 rfl ?_
        refine r_if_eq (tgt := 207) dL_law_176 (by decide) (fun c => absurd c (by decide)) (fun c => ?_)
        refine rAload_n dL_law_179 rfl ?_
        refine rAload_n dL_law_180 rfl ?_
        refine rIload dL_law_181 rfl ?_
        refine rBipush (v := (nI (6))) dL_law_183 (by decide) ?_
        refine rIshr dL_law_185 ?_
        refine tTop (w := shr v 6) rfl ?_
        refine rIconst (v := (nI (3))) dL_law_186 (by decide) ?_
        refine rIand dL_law_187 ?_
        refine tTop (w := (nI (j))) ej ?_
        refine rIload dL_law_188 rfl ?_
        refine rBipush (v := (nI (9))) dL_law_190 (by decide) ?_
        refine rIshr dL_law_192 ?_
        refine tTop (w := shr v 9) rfl ?_
        refine rIconst (v := (nI (4))) dL_law_193 (by decide) ?_
        refine sCallSp (M' := mL_low) (rm' := rmD 1 0 0) (As := [.int (shr v 9), .int (nI 4)]) (rest := [.int (nI j), .ref (ad V 47), .ref (ad V 0)]) dL_law_194 rfl mk_L_low ms_L_low ll_L_56 ⟨(Nat.le_of_ble_eq_true rfl), (Nat.le_of_ble_eq_true rfl)⟩ rfl (by show 1000 + 3500 * i + 2498 + 0 ≤ 663166; omega) (by show 10000 + 21000 * i + 14988 + 0 ≤ 7111684; omega) (c_L_low (by decide) (by decide)) rfl (Nat.le_of_ble_eq_true rfl) (fun v hk => ?_)
        refine RW.widen (k := 1000 + 3500 * i + 2498) (n := 10000 + 21000 * i + 14988) (by show 1000 + 3500 * i + 2498 + 0 ≤ _; omega) (by show 10000 + 21000 * i + 14988 + 0 ≤ _; omega) ?_
        subst hk
        show RW G _ _ _ _ 197 [some (.ref (gsb G)), some (.ref (ad V 0)), some (.ref (ad V 47)), some (.int (nI 1)), some (.int (nI i)), some (.int v), none] [.int (nI (lowN (shr v 9) 4)), .int (nI j), .ref (ad V 47), .ref (ad V 0)] _ _ _
        obtain ⟨q, eq⟩ : ∃ q, q = lowN (shr v 9) 4 := ⟨_, rfl⟩
        have lq : q < 4 := by rw [eq]; exact lowN_lt (by decide)
        refine tTop (w := (nI (q))) (congrArg nI eq.symm) ?_
        refine sCallSi (M' := mL_isMovedSo) (rm' := rmD 12 430 2580) (As := [.ref (ad V 0), .ref (ad V 47), .int (nI j), .int (nI q)]) (rest := []) dL_law_197 rfl mk_L_isMovedSo ms_L_isMovedSo ll_L_125 ⟨(Nat.le_of_ble_eq_true rfl), (Nat.le_of_ble_eq_true rfl)⟩ rfl (by show 1000 + 3500 * i + 2498 + 430 ≤ 663166; omega) (by show 10000 + 21000 * i + 14988 + 2580 ≤ 7111684; omega) (c_L_isMovedSo ho hq hw hg hfl lj lq) rfl (Nat.le_of_ble_eq_true rfl) (fun v s1 hv => ?_)
        obtain ⟨rfl, h1, g1, w1⟩ := hv
        refine RW.widen (k := 1000 + 3500 * i + 2928) (n := 10000 + 21000 * i + 17568) (by show 1000 + 3500 * i + 2498 + 430 ≤ _; omega) (by show 10000 + 21000 * i + 14988 + 2580 ≤ _; omega) ?_
        show RW G _ _ _ _ 200 [some (.ref (gsb G)), some (.ref (ad V 0)), some (.ref (ad V 47)), some (.int (nI 1)), some (.int (nI i)), some (.int v), none] [.int (nI 1)] _ _ _
        refine r_if_eq (tgt := 207) dL_law_200 (by decide) (fun c => absurd c (by decide)) (fun c => ?_)
        refine rIconst (v := (nI (1))) dL_law_203 (by decide) ?_
        refine rGoto (tgt := 208) dL_law_204 (by decide) ?_
        refine rIstore_n dL_law_208 (Nat.le_of_ble_eq_true rfl) ?_
        show RW G _ _ _ _ 209 [some (.ref (gsb G)), some (.ref (ad V 0)), some (.ref (ad V 47)), some (.int (nI 1)), some (.int (nI i)), some (.int v), none] [] _ _ _
        exact RW.widen (k := 1000 + 3500 * i + 2928) (n := 10000 + 21000 * i + 17568) (by show 1000 + 3500 * i + 2928 ≤ _; omega) (by show 10000 + 21000 * i + 17568 ≤ _; omega) (K209 _ _ w1 g1)
    have K96 : ∀ (s : sgT) (h : hT), W2 s h h → good h → RW G (mLw nm eh) code room_1 (QL G) 96 [some (.ref (gsb G)), some (.ref (ad V 0)), some (.ref (ad V 47)), some (.int (nI 1)), some (.int (nI i)), some (.int v), none] [] (wS G V s lo) (1000 + 3500 * i + 1550) (10000 + 21000 * i + 9300) := by
      intro s h hw hg
      obtain ⟨j, lj, ej⟩ := and3 (shr v 7)
      refine rAload_n dL_law_96 rfl ?_
      refine rIload dL_law_97 rfl ?_
      refine rBipush (v := (nI (7))) dL_law_99 (by decide) ?_
      refine rIshr dL_law_101 ?_
      refine tTop (w := shr v 7) rfl ?_
      refine rIconst (v := (nI (3))) dL_law_102 (by decide) ?_
      refine rIand dL_law_103 ?_
      refine tTop (w := (nI (j))) ej ?_
      refine sCallSi (M' := mL_isHallSo) (rm' := rmD 11 660 3960) (As := [.ref (ad V 0), .int (nI j)]) (rest := []) dL_law_104 rfl mk_L_isHallSo ms_L_isHallSo ll_L_117 ⟨(Nat.le_of_ble_eq_true rfl), (Nat.le_of_ble_eq_true rfl)⟩ rfl (by show 1000 + 3500 * i + 1550 + 660 ≤ 663166; omega) (by show 10000 + 21000 * i + 9300 + 3960 ≤ 7111684; omega) (c_L_isHallSo ho hw.1 hg hfl lj) rfl (Nat.le_of_ble_eq_true rfl) (fun v s1 hv => ?_)
      have w1 := w2_0 hw hv
      obtain ⟨rfl, -, -⟩ := hv
      refine RW.widen (k := 1000 + 3500 * i + 2210) (n := 10000 + 21000 * i + 13260) (by show 1000 + 3500 * i + 1550 + 660 ≤ _; omega) (by show 10000 + 21000 * i + 9300 + 3960 ≤ _; omega) ?_
      show RW G _ _ _ _ 107 [some (.ref (gsb G)), some (.ref (ad V 0)), some (.ref (ad V 47)), some (.int (nI 1)), some (.int (nI i)), some (.int v), none] [.int (nI 1)] _ _ _
      refine r_if_eq (tgt := 114) dL_law_107 (by decide) (fun c => absurd c (by decide)) (fun c => ?_)
      refine rIconst (v := (nI (1))) dL_law_110 (by decide) ?_
      refine rGoto (tgt := 115) dL_law_111 (by decide) ?_
      refine rIstore_n dL_law_115 (Nat.le_of_ble_eq_true rfl) ?_
      show RW G _ _ _ _ 116 [some (.ref (gsb G)), some (.ref (ad V 0)), some (.ref (ad V 47)), some (.int (nI 1)), some (.int (nI i)), some (.int v), none] [] _ _ _
      refine rIload dL_law_116 rfl ?_
      refine rIconst (v := (nI (4))) dL_law_118 (by decide) ?_
      refine nIrem dL_law_119 (by omega) (by decide) (by decide) ?_
      refine rIconst (v := (nI (1))) dL_law_120 (by decide) ?_
      refine r_icmp_ne (tgt := 167) dL_law_121 (by decide) (fun c_121 => ?_) (fun c_121 => ?_)
      · have c_121 : ¬ ((i % 4) = 1) := fun h => c_121 ((nI_eq (by omega) (by omega)).mpr h)
        exact RW.widen (k := 1000 + 3500 * i + 2498) (n := 10000 + 21000 * i + 14988) (by show 1000 + 3500 * i + 2210 ≤ _; omega) (by show 10000 + 21000 * i + 13260 ≤ _; omega) (K167 _ _ w1 hg)
      · have c_121 : (i % 4) = 1 := (nI_eq (by omega) (by omega)).mp c_121
        obtain ⟨r, lr, er⟩ := and3 (shr v 5)
        refine rIload_n dL_law_124 rfl ?_
        refine r_if_eq (tgt := 165) dL_law_125 (by decide) (fun c => absurd c (by decide)) (fun c => ?_)
        refine rAload_n dL_law_128 rfl ?_
        refine rIload dL_law_129 rfl ?_
        refine rIconst (v := (nI (5))) dL_law_131 (by decide) ?_
        refine rIshr dL_law_132 ?_
        refine tTop (w := shr v 5) rfl ?_
        refine rIconst (v := (nI (3))) dL_law_133 (by decide) ?_
        refine rIand dL_law_134 ?_
        refine tTop (w := (nI (r))) er ?_
        refine rIload dL_law_135 rfl ?_
        refine rIconst (v := (nI (5))) dL_law_137 (by decide) ?_
        refine rIshr dL_law_138 ?_
        refine tTop (w := shr v 5) rfl ?_
        refine rIconst (v := (nI (3))) dL_law_139 (by decide) ?_
        refine rIand dL_law_140 ?_
        refine tTop (w := (nI (r))) er ?_
        refine rIconst (v := (nI (1))) dL_law_141 (by decide) ?_
        refine nIadd dL_law_142 ?_
        refine rIload dL_law_143 rfl ?_
        refine rBipush (v := (nI (8))) dL_law_145 (by decide) ?_
        refine rIshr dL_law_147 ?_
        refine tTop (w := shr v 8) rfl ?_
        refine rIconst (v := (nI (3))) dL_law_148 (by decide) ?_
        refine sCallSp (M' := mL_low) (rm' := rmD 1 0 0) (As := [.int (shr v 8), .int (nI 3)]) (rest := [.int (nI (r + 1)), .int (nI r), .ref (ad V 0)]) dL_law_149 rfl mk_L_low ms_L_low ll_L_56 ⟨(Nat.le_of_ble_eq_true rfl), (Nat.le_of_ble_eq_true rfl)⟩ rfl (by show 1000 + 3500 * i + 2210 + 0 ≤ 663166; omega) (by show 10000 + 21000 * i + 13260 + 0 ≤ 7111684; omega) (c_L_low (by decide) (by decide)) rfl (Nat.le_of_ble_eq_true rfl) (fun v hk => ?_)
        refine RW.widen (k := 1000 + 3500 * i + 2210) (n := 10000 + 21000 * i + 13260) (by show 1000 + 3500 * i + 2210 + 0 ≤ _; omega) (by show 10000 + 21000 * i + 13260 + 0 ≤ _; omega) ?_
        subst hk
        show RW G _ _ _ _ 152 [some (.ref (gsb G)), some (.ref (ad V 0)), some (.ref (ad V 47)), some (.int (nI 1)), some (.int (nI i)), some (.int v), none] [.int (nI (lowN (shr v 8) 3)), .int (nI (r + 1)), .int (nI r), .ref (ad V 0)] _ _ _
        obtain ⟨q, eq⟩ : ∃ q, q = lowN (shr v 8) 3 := ⟨_, rfl⟩
        have lq : q < 3 := by rw [eq]; exact lowN_lt (by decide)
        refine tTop (w := (nI (q))) (congrArg nI eq.symm) ?_
        refine nIadd dL_law_152 ?_
        refine rIconst (v := (nI (4))) dL_law_153 (by decide) ?_
        refine nIrem dL_law_154 (by omega) (by decide) (by decide) ?_
        refine sCallSi (M' := mL_isFoughtSo) (rm' := rmD 11 288 1728) (As := [.ref (ad V 0), .int (nI r), .int (nI (((r + 1) + q) % 4))]) (rest := []) dL_law_155 rfl mk_L_isFoughtSo ms_L_isFoughtSo ll_L_121 ⟨(Nat.le_of_ble_eq_true rfl), (Nat.le_of_ble_eq_true rfl)⟩ rfl (by show 1000 + 3500 * i + 2210 + 288 ≤ 663166; omega) (by show 10000 + 21000 * i + 13260 + 1728 ≤ 7111684; omega) (c_L_isFoughtSo ho w1.1 hg hfl lr (by omega) (by omega)) rfl (Nat.le_of_ble_eq_true rfl) (fun v s2 hv => ?_)
        have w2 := w2_0 w1 hv
        obtain ⟨rfl, -, -⟩ := hv
        refine RW.widen (k := 1000 + 3500 * i + 2498) (n := 10000 + 21000 * i + 14988) (by show 1000 + 3500 * i + 2210 + 288 ≤ _; omega) (by show 10000 + 21000 * i + 13260 + 1728 ≤ _; omega) ?_
        show RW G _ _ _ _ 158 [some (.ref (gsb G)), some (.ref (ad V 0)), some (.ref (ad V 47)), some (.int (nI 1)), some (.int (nI i)), some (.int v), none] [.int (nI 1)] _ _ _
        refine r_if_eq (tgt := 165) dL_law_158 (by decide) (fun c => absurd c (by decide)) (fun c => ?_)
        refine rIconst (v := (nI (1))) dL_law_161 (by decide) ?_
        refine rGoto (tgt := 166) dL_law_162 (by decide) ?_
        refine rIstore_n dL_law_166 (Nat.le_of_ble_eq_true rfl) ?_
        show RW G _ _ _ _ 167 [some (.ref (gsb G)), some (.ref (ad V 0)), some (.ref (ad V 47)), some (.int (nI 1)), some (.int (nI i)), some (.int v), none] [] _ _ _
        exact RW.widen (k := 1000 + 3500 * i + 2498) (n := 10000 + 21000 * i + 14988) (by show 1000 + 3500 * i + 2498 ≤ _; omega) (by show 10000 + 21000 * i + 14988 ≤ _; omega) (K167 _ _ w2 hg)
    have K79 : ∀ (s : sgT) (h : hT), W2 s h h → good h → RW G (mLw nm eh) code room_1 (QL G) 79 [some (.ref (gsb G)), some (.ref (ad V 0)), some (.ref (ad V 47)), some (.int (nI 1)), some (.int (nI i)), some (.int v), none] [] (wS G V s lo) (1000 + 3500 * i + 20) (10000 + 21000 * i + 120) := by
      intro s h hw hg
      refine rIload dL_law_79 rfl ?_
      refine rBipush (v := (nI (6))) dL_law_81 (by decide) ?_
      refine nIrem dL_law_83 (by omega) (by decide) (by decide) ?_
      refine rIconst (v := (nI (3))) dL_law_84 (by decide) ?_
      refine r_icmp_ne (tgt := 96) dL_law_85 (by decide) (fun c_85 => ?_) (fun c_85 => ?_)
      · have c_85 : ¬ ((i % 6) = 3) := fun h => c_85 ((nI_eq (by omega) (by omega)).mpr h)
        exact RW.widen (k := 1000 + 3500 * i + 1550) (n := 10000 + 21000 * i + 9300) (by show 1000 + 3500 * i + 20 ≤ _; omega) (by show 10000 + 21000 * i + 120 ≤ _; omega) (K96 _ _ hw hg)
      · have c_85 : (i % 6) = 3 := (nI_eq (by omega) (by omega)).mp c_85
        refine rAload_n dL_law_88 rfl ?_
        refine rAload_n dL_law_89 rfl ?_
        refine sCallSi (M' := mL_areAlike) (rm' := rmD 11 1530 9180) (As := [.ref (ad V 0), .ref (ad V 47)]) (rest := []) dL_law_90 rfl mk_L_areAlike ms_L_areAlike ll_L_113 ⟨(Nat.le_of_ble_eq_true rfl), (Nat.le_of_ble_eq_true rfl)⟩ rfl (by show 1000 + 3500 * i + 20 + 1530 ≤ 663166; omega) (by show 10000 + 21000 * i + 120 + 9180 ≤ 7111684; omega) (c_L_areAlike ho hq hw hg hfl) rfl (Nat.le_of_ble_eq_true rfl) (fun v s1 hv => ?_)
        obtain ⟨rfl, w1⟩ := hv
        refine RW.widen (k := 1000 + 3500 * i + 1550) (n := 10000 + 21000 * i + 9300) (by show 1000 + 3500 * i + 20 + 1530 ≤ _; omega) (by show 10000 + 21000 * i + 120 + 9180 ≤ _; omega) ?_
        show RW G _ _ _ _ 93 [some (.ref (gsb G)), some (.ref (ad V 0)), some (.ref (ad V 47)), some (.int (nI 1)), some (.int (nI i)), some (.int v), none] [.int (nI 1)] _ _ _
        refine r_if_eq (tgt := 114) dL_law_93 (by decide) (fun c => absurd c (by decide)) (fun c => ?_)
        exact RW.widen (k := 1000 + 3500 * i + 1550) (n := 10000 + 21000 * i + 9300) (by show 1000 + 3500 * i + 1550 ≤ _; omega) (by show 10000 + 21000 * i + 9300 ≤ _; omega) (K96 _ _ w1 hg)
    refine rIstore dL_law_51 (Nat.le_of_ble_eq_true rfl) ?_
    show RW G _ _ _ _ 53 [some (.ref (gsb G)), some (.ref (ad V 0)), some (.ref (ad V 47)), some (.int (nI 1)), some (.int (nI i)), some (.int v), none] [] _ _ _
    refine rAload_n dL_law_53 rfl ?_
    refine rIload dL_law_54 rfl ?_
    refine sCallSi (M' := mL_act) (rm' := rmD 11 10 60) (As := [.ref (ad V 0), .int v]) (rest := []) dL_law_56 rfl mk_L_act ms_L_act ll_L_110 ⟨(Nat.le_of_ble_eq_true rfl), (Nat.le_of_ble_eq_true rfl)⟩ rfl (by show 1000 + 3500 * i + 10 ≤ 663166; omega) (by show 10000 + 21000 * i + 60 ≤ 7111684; omega) (c_L_act ho hw.1 hg hfl) rfl (Nat.le_of_ble_eq_true rfl) (fun v s1 hv => ?_)
    have w1 := w2_0 hw hv
    obtain ⟨rfl, -, -⟩ := hv
    refine RW.widen (k := 1000 + 3500 * i + 10) (n := 10000 + 21000 * i + 60) (by show 1000 + 3500 * i + 10 ≤ _; omega) (by show 10000 + 21000 * i + 60 ≤ _; omega) ?_
    show RW G _ _ _ _ 59 [some (.ref (gsb G)), some (.ref (ad V 0)), some (.ref (ad V 47)), some (.int (nI 1)), some (.int (nI i)), some (.int v), none] [.int (aI (fAct h v))] _ _ _
    refine rIstore dL_law_59 (Nat.le_of_ble_eq_true rfl) ?_
    show RW G _ _ _ _ 61 [some (.ref (gsb G)), some (.ref (ad V 0)), some (.ref (ad V 47)), some (.int (nI 1)), some (.int (nI i)), some (.int v), some (.int (aI (fAct h v)))] [] _ _ _
    refine rIload dL_law_61 rfl ?_
    refine rLdc (v := -99999) dL_law_63 kc_L_43 ?_
    refine r_icmp_eq (tgt := 79) dL_law_65 (by decide) (fun c_65 => ?_) (fun c_65 => ?_)
    · have e := act_same (aI_no (num_act (hall_q hw.1) hg.1) c_65)
      rw [e] at w1
      refine rForget (L := [some (.ref (gsb G)), some (.ref (ad V 0)), some (.ref (ad V 47)), some (.int (nI 1)), some (.int (nI i)), some (.int v), some (.int (aI (fAct h v)))]) (L' := [some (.ref (gsb G)), some (.ref (ad V 0)), some (.ref (ad V 47)), some (.int (nI 1)), some (.int (nI i)), some (.int v), none]) (by exact ⟨rfl, ⟨rfl, ⟨rfl, ⟨rfl, ⟨rfl, ⟨rfl, trivial⟩⟩⟩⟩⟩⟩) ?_
      exact RW.widen (k := 1000 + 3500 * i + 20) (n := 10000 + 21000 * i + 120) (by show 1000 + 3500 * i + 10 ≤ _; omega) (by show 10000 + 21000 * i + 60 ≤ _; omega) (K79 _ _ w1 hg)
    · refine rAload_n dL_law_68 rfl ?_
      refine rIload dL_law_69 rfl ?_
      refine sCallSi (M' := mL_act) (rm' := rmD 11 10 60) (As := [.ref (ad V 47), .int v]) (rest := []) dL_law_71 rfl mk_L_act ms_L_act ll_L_110 ⟨(Nat.le_of_ble_eq_true rfl), (Nat.le_of_ble_eq_true rfl)⟩ rfl (by show 1000 + 3500 * i + 10 + 10 ≤ 663166; omega) (by show 10000 + 21000 * i + 60 + 60 ≤ 7111684; omega) (c_L_act hq w1.2 hg hfl) rfl (Nat.le_of_ble_eq_true rfl) (fun v s2 hv => ?_)
      have w2 := w2_1 w1 hv
      obtain ⟨rfl, -, -⟩ := hv
      refine RW.widen (k := 1000 + 3500 * i + 20) (n := 10000 + 21000 * i + 120) (by show 1000 + 3500 * i + 10 + 10 ≤ _; omega) (by show 10000 + 21000 * i + 60 + 60 ≤ _; omega) ?_
      show RW G _ _ _ _ 74 [some (.ref (gsb G)), some (.ref (ad V 0)), some (.ref (ad V 47)), some (.int (nI 1)), some (.int (nI i)), some (.int v), some (.int (aI (fAct h v)))] [.int (aI (fAct h v))] _ _ _
      refine rIload dL_law_74 rfl ?_
      refine r_icmp_ne (tgt := 114) dL_law_76 (by decide) (fun c => absurd rfl c) (fun c => ?_)
      refine rForget (L := [some (.ref (gsb G)), some (.ref (ad V 0)), some (.ref (ad V 47)), some (.int (nI 1)), some (.int (nI i)), some (.int v), some (.int (aI (fAct h v)))]) (L' := [some (.ref (gsb G)), some (.ref (ad V 0)), some (.ref (ad V 47)), some (.int (nI 1)), some (.int (nI i)), some (.int v), none]) (by exact ⟨rfl, ⟨rfl, ⟨rfl, ⟨rfl, ⟨rfl, ⟨rfl, trivial⟩⟩⟩⟩⟩⟩) ?_
      exact RW.widen (k := 1000 + 3500 * i + 20) (n := 10000 + 21000 * i + 120) (by show 1000 + 3500 * i + 20 ≤ _; omega) (by show 10000 + 21000 * i + 120 ≤ _; omega) (K79 _ _ w2 (gd_act hg))
