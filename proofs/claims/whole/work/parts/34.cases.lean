/-! the law's body: its end, its words (the skeleton's texts among them), what a call keeps (by program) -/
def R_law : String := "GladehallLaw"
def lw_P (b : Addr) (xs : List Int32) (args : Array Value) (s : State) : Prop := args = #[.ref b] ∧ s.IntsAt b xs ∧ xs.length ≤ 1536 ∧ (Jvm.Cond.and given_1 narrow_1).before args s = true
def lw_Q (_ : Array Value) (s : State) (o : Outcome) (t : State) : Prop := o = .returned (some (.int 1)) ∧ Framed s o t [] 651549 7141458
def lw_Z (below : List Frame) (a : Array Value) (s : State) : State → Prop := fun t => ∃ o, t.status = .running ∧ Ended t below o ∧ lw_Q a s o t
/-- the law's own end, with 1 on the stack, nothing written that was there before, its room as the claim has it -/
theorem lw_ret {p : Program} {l : Launch} {e : Env} {s : State} {m : MethodId} {below : List Frame} {meth : Method} {c : Code} {b : Nat} (hx : p.tables.exec = Jvm.exec) (hb : c.code = code) (hr : meth.sig.returnType = ret) (hlocks : meth.locks = false) {pc : Nat} {H : Heap} {ls : Array Slot} (hdg : decode code pc = .ok (.ireturn, 1)) : W p l e room_1 s m #[Value.ref b] below meth c H [] 651549 7141458 (lw_Z below #[Value.ref b] s) (F0 m pc ls [.int 1]) := by
  intro T hT X
  obtain ⟨fs, hret, hrun, hended, hW, hframe⟩ := X.leave (v := some (.int 1)) (hlocks := hlocks) (fun h => by rw [hr] at h; cases h)
  have hmeth' : T.vm.method? m = some meth := X.method'
  refine ⟨T.setFrames fs, ?_, .returned (some (.int 1)), hrun, hended, rfl, ⟨_, rfl⟩, hW, hframe⟩
  jvm_step X.here [X.here.top, hx, hb, hdg, hmeth', hr, ret, narrow_b1]
  (try refine ⟨rfl, ?_⟩); (try refine ⟨rfl, ?_⟩)
  first | (intro acts; rw [hret _ acts rfl rfl rfl]) | rw [hret _ _ rfl rfl rfl]
  exact Steps.refl _
/-- what holds at the law's entry -/
def lw_At (p : Program) (s : State) (m : MethodId) (meth : Method) (c : Code) (b L : Nat) (xs : Nat → Int32) : Prop :=
  p.tables.exec = Jvm.exec ∧ c.code = code ∧ meth.sig.returnType = ret ∧ c.maxLocals = 7 ∧ s.vm.findClass R_law = some m.cls ∧ (∀ w ∈ lw_tbl, w.before #[Value.ref b] s = true) ∧ va_X b L xs s s.heap ∧ b < s.heap.size ∧ meth.locks = false ∧ (Jvm.Cond.and given_1 narrow_1).before #[Value.ref b] s = true
/-- the law as a method; its name and its table are those of the machine -/
abbrev mLw (nm : String) (eh : List (Nat × Nat × Nat × Nat)) : mT := (RL, nm, "([I)Z", 7, ret, eh)
/-- where the law has ended -/
def QL (G : gG) : Array Value → State → List Frame → State → Prop := fun args s below t => (args = #[Value.ref (gsb G)] ∧ s.heap.size ≤ gb G) → lw_Z below args s t
theorem rLawRet {G : gG} {nm : String} {eh : List (Nat × Nat × Nat × Nat)} {pc : Nat} {L : List (Option Value)} {ws : va_W} {cells slots : Nat} (hd : decode code pc = .ok (.ireturn, 1)) (hc : cells ≤ 651549) (hs : slots ≤ 7141458) : RW G (mLw nm eh) code room_1 (QL G) pc L [.int 1] ws cells slots := by
  intro p e s m args below meth c H locs ls hF hP hD hS hL
  by_cases hq : args = #[Value.ref (gsb G)] ∧ s.heap.size ≤ gb G
  · obtain ⟨rfl, hz⟩ := hq
    intro T hT X
    obtain ⟨h1, h2, h3, h4, h5, h6, h7, h8, h9, hsf, hsh⟩ := id hF
    have K : W p (gl G) e room_1 s m #[Value.ref (gsb G)] below meth c H locs cells slots (lw_Z below #[Value.ref (gsb G)] s) (F0 m pc ls [.int 1]) := by
      refine va_forget (fun q hq => Nat.le_trans hz (hS.2.2 q hq)) ?_
      refine W.widen (k := 651549) (n := 7141458) hc hs ?_
      exact lw_ret h1 h2 h3 h7 hd
    obtain ⟨t, a, b⟩ := K T hT X
    exact ⟨t, a, fun _ => b⟩
  · intro T hT X
    exact ⟨_, Steps.refl _, fun h => absurd h hq⟩
abbrev LwL (G : gG) (V : wV) (i : Nat) : List (Option Value) := [some (.ref (gsb G)), some (.ref (ad V 0)), some (.ref (ad V 47)), some (.ref (ad V 63)), some (.int (nI i)), none, none]
theorem modIs_far {s s' : sgT} {m : Nat} {h : hT} (hh : modIs s m h) (hb : ∀ b, m ≤ b → s' b = s b) : modIs s' m h := by
  obtain ⟨a1, ⟨f, b1, b2, b3, b4, b5⟩, a3, a4⟩ := hh
  refine ⟨by rw [hb _ (by omega)]; exact a1, ⟨f, b1, by rw [hb _ (by omega)]; exact b2, by rw [hb _ (by omega)]; exact b3, b4, fun i hi => by rw [hb _ (by omega)]; exact b5 i hi⟩, fun k hk => by rw [hb _ (by omega)]; exact a3 k hk, fun p hp => ?_⟩
  obtain ⟨e1, e2, e3, e4, e5, e6, ⟨e7, f7⟩, e8, f8⟩ := a4 p hp
  exact ⟨by rw [hb _ (by omega)]; exact e1, by rw [hb _ (by omega)]; exact e2, by rw [hb _ (by omega)]; exact e3, by rw [hb _ (by omega)]; exact e4, by rw [hb _ (by omega)]; exact e5, fun j hj => by rw [hb _ (by omega)]; exact e6 j hj, ⟨by rw [hb _ (by omega)]; exact e7, fun i hi => by rw [hb _ (by omega)]; exact f7 i hi⟩, by rw [hb _ (by omega)]; exact e8, fun i hi => by rw [hb _ (by omega)]; exact f8 i hi⟩
theorem hall_far {s s' : sgT} {h : hT} (hh : hallIs s 0 h) (hb : mFr s s' 47) : hallIs s' 0 h := hallIs_keep hh (fun b _ _ => hb b (by omega)) (fun b _ _ => hb b (by omega))
theorem mod_far {s s' : sgT} {h : hT} (hh : modIs s 47 h) (hb : hFr s s' 0) : modIs s' 47 h := modIs_far hh (fun b hq => hb b (by omega))
theorem lg_same (x : Int64) : lg_cmp x x = 0 := by simp [lg_cmp]
theorem r_small {n : Nat} (h : n ≤ 3) (h0 : nI n = 0) : n = 0 := (nz_eq (by omega)).mp h0
theorem nI_big {L i : Nat} (hL : L ≤ 1536) (hi : i ≤ 1600) (h : ¬ nI L - nI 3 < nI i) : i + 3 ≤ L := by
  have e1 : (nI L - nI 3).toInt = (L : Int) - 3 := pk_sub_toInt (by omega) (by decide)
  have e2 : (nI i).toInt = (i : Int) := nI_toInt (by omega)
  have h1 := Int32.not_lt.mp h
  rw [Int32.le_iff_toInt_le, e1, e2] at h1
  omega
theorem nI_end {L i : Nat} (hL : L ≤ 1536) (hi : i ≤ 1600) (h : nI L - nI 3 < nI i) : L < i + 3 := by
  have e1 : (nI L - nI 3).toInt = (L : Int) - 3 := pk_sub_toInt (by omega) (by decide)
  have e2 : (nI i).toInt = (i : Int) := nI_toInt (by omega)
  rw [Int32.lt_iff_toInt_lt, e1, e2] at h
  omega
theorem le_tell {h : hT} {x : Int32} : (fTell h x).1 ≤ 3 := by
  unfold fTell
  repeat' split
  all_goals exact Nat.le_of_ble_eq_true rfl
theorem le_roll {h : hT} {x : Int32} : (fRoll h x).1 ≤ 3 := by
  unfold fRoll
  repeat' split
  all_goals exact Nat.le_of_ble_eq_true rfl
theorem le_toggleLock {h : hT} {x : Int32} : (fToggle h x).1 ≤ 3 := by
  unfold fToggle
  repeat' split
  all_goals exact Nat.le_of_ble_eq_true rfl
theorem le_buyLevel {h : hT} {x : Int32} : (fLevel h x).1 ≤ 3 := by
  unfold fLevel
  repeat' split
  all_goals exact Nat.le_of_ble_eq_true rfl
theorem le_buy {h : hT} {x y : Int32} : (fBuy h x y).1 ≤ 3 := by
  unfold fBuy
  repeat' split
  all_goals exact Nat.le_of_ble_eq_true rfl
theorem le_sell {h : hT} {x y : Int32} : (fSell h x y).1 ≤ 3 := by
  unfold fSell
  repeat' split
  all_goals exact Nat.le_of_ble_eq_true rfl
theorem le_toBoard {h : hT} {x y : Int32} : (fBoard h x y).1 ≤ 3 := by
  unfold fBoard
  repeat' split
  all_goals exact Nat.le_of_ble_eq_true rfl
theorem le_toBench {h : hT} {x y : Int32} : (fBench h x y).1 ≤ 3 := by
  unfold fBench
  repeat' split
  all_goals exact Nat.le_of_ble_eq_true rfl
theorem le_round {h : hT} : (fRound h).1 ≤ 3 := by
  unfold fRound
  repeat' split
  all_goals exact Nat.le_of_ble_eq_true rfl
theorem le_fight {h : hT} {x y : Int32} : (fFight h x y).1 ≤ 3 := by
  unfold fFight
  repeat' split
  all_goals exact Nat.le_of_ble_eq_true rfl
theorem le_pool {h : hT} {x : Int32} : (fPool h x).1 ≤ 3 := by
  unfold fPool
  repeat' split
  all_goals exact Nat.le_of_ble_eq_true rfl
theorem le_out {h : hT} {x : Int32} : (fOut h x).1 ≤ 3 := by
  unfold fOut
  repeat' split
  all_goals exact Nat.le_of_ble_eq_true rfl
theorem le_ask {f : plT → Int32} {h : hT} {x : Int32} : (fAsk f h x).1 ≤ 3 := by
  unfold fAsk
  repeat' split
  all_goals exact Nat.le_of_ble_eq_true rfl
theorem le_ask2 {n : plT → Nat} {f : plT → Nat → Int32} {h : hT} {x y : Int32} : (fAsk2 n f h x y).1 ≤ 3 := by
  unfold fAsk2
  repeat' split
  all_goals exact Nat.le_of_ble_eq_true rfl
set_option maxRecDepth 100000 in
set_option maxHeartbeats 4000000 in
theorem k_tell {G : gG} {V : wV} {nm : String} {eh : List (Nat × Nat × Nat × Nat)} (hL : gsL G ≤ 1536) (ho : hallAt V 0) (hm : modAt V 47) (hq : shAt V 63 (11, 1, [])) (hq1 : ∀ k, (V.1 k).1 = 11 → k = 63) (hfl : (gl G).stackTraces = false) {i B cells slots : Nat} {s : sgT} {lo : Nat → Int64} {h : hT} (hi : i + 3 ≤ gsL G) (hh : hallIs s 0 h) (hr : modIs s 47 h) (hok : hallOk B h) (hB : B ≤ 19000) (hc : cells + 10 ≤ 651549) (hs : slots + 60 ≤ 7141458) (kk : ∀ (s' : sgT) (lo' : Nat → Int64) (h' : hT), hallIs s' 0 h' → modIs s' 47 h' → hallOk (B + 12) h' → RW G (mLw nm eh) code room_1 (QL G) 1384 (LwL G V i) [] (wS G V s' lo') (cells + 10) (slots + 60)) : RW G (mLw nm eh) code room_1 (QL G) 136 (LwL G V i) [] (wS G V s lo) cells slots := by
  refine rAload_n dL_law_136 rfl ?_
  refine rAload_n dL_law_137 rfl ?_
  refine rIload dL_law_138 rfl ?_
  refine rIconst (v := nI 1) dL_law_140 (by decide) ?_
  refine nIadd dL_law_141 ?_
  refine rSld dL_law_142 (vp_in_nI (by omega) (by omega)) ?_
  refine rAload_n dL_law_143 rfl ?_
  refine rCall (mc := (rmD 12 10 60).cells) (ms := (rmD 12 10 60).slots) (rest := []) (rRunSW (M' := mL_tell) (As := [.ref (ad V 0), .int (gsx G (nI (i + 1)).toNatClampNeg), .ref (ad V 63)]) dL_law_144 (by decide) mk_L_tell ms_L_tell lw_L_85 ⟨(Nat.le_of_ble_eq_true rfl), (Nat.le_of_ble_eq_true rfl)⟩ rfl (Nat.le_of_ble_eq_true rfl) hc hs (c_L_tell ho hq hq1 hh hok hB hfl)) (fun v w hv => ?_)
  obtain ⟨v, s1, lo1, rfl, rfl, rfl, p1, p2, p3⟩ := hv
  have hr1 := mod_far hr p2
  show RW G _ _ _ _ 147 _ [.int (nI (fTell h (gsx G (nI (i + 1)).toNatClampNeg)).1)] _ _ _
  refine rIstore dL_law_147 (Nat.le_of_ble_eq_true rfl) ?_
  refine rAload_n dL_law_149 rfl ?_
  refine rAload_n dL_law_150 rfl ?_
  refine rIload dL_law_151 rfl ?_
  refine rIconst (v := nI 1) dL_law_153 (by decide) ?_
  refine nIadd dL_law_154 ?_
  refine rSld dL_law_155 (vp_in_nI (by omega) (by omega)) ?_
  refine sCallVi (M' := mX7_tell) (rm' := rmD 9 0 0) (As := [.int (gsx G (nI (i + 1)).toNatClampNeg)]) (rest := []) dL_law_156 rfl mk_X7_tell mi_X7_tell ll_L_90 ⟨(Nat.le_of_ble_eq_true rfl), (Nat.le_of_ble_eq_true rfl)⟩ hm.1 (by decide) rfl rfl hc hs (c_X7_tell hm hr1 hok hB) rfl (Nat.le_of_ble_eq_true rfl) (fun b s2 hb => ?_)
  obtain ⟨q0, q1, q2, q3⟩ := hb
  refine rIstore dL_law_159 (Nat.le_of_ble_eq_true rfl) ?_
  refine rAload_n dL_law_161 rfl ?_
  refine sCallVp (M' := mX7_thrown) (rm' := rmD 1 0 0) (As := []) (rest := []) dL_law_162 rfl mk_X7_thrown mi_X7_thrown ll_L_91 ⟨(Nat.le_of_ble_eq_true rfl), (Nat.le_of_ble_eq_true rfl)⟩ hm.1 (by decide) rfl rfl hc hs (c_X7_thrown hm) rfl (Nat.le_of_ble_eq_true rfl) (fun k hk => ?_)
  have hk2 : k = nI (fTell h (gsx G (nI (i + 1)).toNatClampNeg)).1 := hk.trans q0
  subst hk2
  refine rIload dL_law_165 rfl ?_
  refine r_icmp_eq (tgt := 172) dL_law_167 (by decide) (fun _ => ?_) (fun c => absurd rfl c)
  refine rIload dL_law_172 rfl ?_
  have fin : RW G (mLw nm eh) code room_1 (QL G) 189 [some (.ref (gsb G)), some (.ref (ad V 0)), some (.ref (ad V 47)), some (.ref (ad V 63)), some (.int (nI i)), some (.int (nI (fTell h (gsx G (nI (i + 1)).toNatClampNeg)).1)), some (.int (b))] [] (wS G V s2 lo1) (cells + 10) (slots + 60) := by
    refine rGoto (tgt := 1384) dL_law_189 (by decide) ?_
    refine rForget (L := [some (.ref (gsb G)), some (.ref (ad V 0)), some (.ref (ad V 47)), some (.ref (ad V 63)), some (.int (nI i)), some (.int (nI (fTell h (gsx G (nI (i + 1)).toNatClampNeg)).1)), some (.int (b))]) (L' := LwL G V i) (by exact ⟨rfl, rfl, rfl, rfl, rfl, trivial⟩) ?_
    exact kk s2 lo1 (fTell h (gsx G (nI (i + 1)).toNatClampNeg)).2.2 (hall_far p1 q3) q2 (ok_tell hok)
  refine r_if_ne (tgt := 189) dL_law_174 (by decide) (fun c => fin) (fun c => ?_)
  have z := r_small le_tell c
  have e1 := p3 z
  have e2 := q1 z
  refine rAload_n dL_law_177 rfl ?_
  refine rIconst (v := nI 0) dL_law_178 (by decide) ?_
  refine sLald dL_law_179 hq (vp_in_nI (by decide) (by decide)) ?_
  refine rIload dL_law_180 rfl ?_
  refine rI2l dL_law_182 ?_
  refine rLcmp dL_law_183 ?_
  have e3 : lo1 (nI 0).toNatClampNeg = b.toInt64 := (by rw [nI_clamp (by decide), e1, ← e2])
  exact r_if_eq (tgt := 189) dL_law_184 (by decide) (fun _ => fin) (fun c => absurd (by rw [e3]; exact lg_same _) c)
set_option maxRecDepth 100000 in
set_option maxHeartbeats 4000000 in
theorem k_roll {G : gG} {V : wV} {nm : String} {eh : List (Nat × Nat × Nat × Nat)} (hL : gsL G ≤ 1536) (ho : hallAt V 0) (hm : modAt V 47) (hq : shAt V 63 (11, 1, [])) (hq1 : ∀ k, (V.1 k).1 = 11 → k = 63) (hfl : (gl G).stackTraces = false) {i B cells slots : Nat} {s : sgT} {lo : Nat → Int64} {h : hT} (hi : i + 3 ≤ gsL G) (hh : hallIs s 0 h) (hr : modIs s 47 h) (hok : hallOk B h) (hB : B ≤ 19000) (hc : cells + 10 ≤ 651549) (hs : slots + 60 ≤ 7141458) (kk : ∀ (s' : sgT) (lo' : Nat → Int64) (h' : hT), hallIs s' 0 h' → modIs s' 47 h' → hallOk (B + 12) h' → RW G (mLw nm eh) code room_1 (QL G) 1384 (LwL G V i) [] (wS G V s' lo') (cells + 10) (slots + 60)) : RW G (mLw nm eh) code room_1 (QL G) 192 (LwL G V i) [] (wS G V s lo) cells slots := by
  refine rAload_n dL_law_192 rfl ?_
  refine rAload_n dL_law_193 rfl ?_
  refine rIload dL_law_194 rfl ?_
  refine rIconst (v := nI 1) dL_law_196 (by decide) ?_
  refine nIadd dL_law_197 ?_
  refine rSld dL_law_198 (vp_in_nI (by omega) (by omega)) ?_
  refine rAload_n dL_law_199 rfl ?_
  refine rCall (mc := (rmD 12 10 60).cells) (ms := (rmD 12 10 60).slots) (rest := []) (rRunSW (M' := mL_roll) (As := [.ref (ad V 0), .int (gsx G (nI (i + 1)).toNatClampNeg), .ref (ad V 63)]) dL_law_200 (by decide) mk_L_roll ms_L_roll lw_L_94 ⟨(Nat.le_of_ble_eq_true rfl), (Nat.le_of_ble_eq_true rfl)⟩ rfl (Nat.le_of_ble_eq_true rfl) hc hs (c_L_roll ho hq hq1 hh hok hB hfl)) (fun v w hv => ?_)
  obtain ⟨v, s1, lo1, rfl, rfl, rfl, p1, p2, p3⟩ := hv
  have hr1 := mod_far hr p2
  show RW G _ _ _ _ 203 _ [.int (nI (fRoll h (gsx G (nI (i + 1)).toNatClampNeg)).1)] _ _ _
  refine rIstore dL_law_203 (Nat.le_of_ble_eq_true rfl) ?_
  refine rAload_n dL_law_205 rfl ?_
  refine rAload_n dL_law_206 rfl ?_
  refine rIload dL_law_207 rfl ?_
  refine rIconst (v := nI 1) dL_law_209 (by decide) ?_
  refine nIadd dL_law_210 ?_
  refine rSld dL_law_211 (vp_in_nI (by omega) (by omega)) ?_
  refine sCallVi (M' := mX7_roll) (rm' := rmD 9 0 0) (As := [.int (gsx G (nI (i + 1)).toNatClampNeg)]) (rest := []) dL_law_212 rfl mk_X7_roll mi_X7_roll ll_L_96 ⟨(Nat.le_of_ble_eq_true rfl), (Nat.le_of_ble_eq_true rfl)⟩ hm.1 (by decide) rfl rfl hc hs (c_X7_roll hm hr1 hok hB) rfl (Nat.le_of_ble_eq_true rfl) (fun b s2 hb => ?_)
  obtain ⟨q0, q1, q2, q3⟩ := hb
  refine rIstore dL_law_215 (Nat.le_of_ble_eq_true rfl) ?_
  refine rAload_n dL_law_217 rfl ?_
  refine sCallVp (M' := mX7_thrown) (rm' := rmD 1 0 0) (As := []) (rest := []) dL_law_218 rfl mk_X7_thrown mi_X7_thrown ll_L_91 ⟨(Nat.le_of_ble_eq_true rfl), (Nat.le_of_ble_eq_true rfl)⟩ hm.1 (by decide) rfl rfl hc hs (c_X7_thrown hm) rfl (Nat.le_of_ble_eq_true rfl) (fun k hk => ?_)
  have hk2 : k = nI (fRoll h (gsx G (nI (i + 1)).toNatClampNeg)).1 := hk.trans q0
  subst hk2
  refine rIload dL_law_221 rfl ?_
  refine r_icmp_eq (tgt := 228) dL_law_223 (by decide) (fun _ => ?_) (fun c => absurd rfl c)
  refine rIload dL_law_228 rfl ?_
  have fin : RW G (mLw nm eh) code room_1 (QL G) 245 [some (.ref (gsb G)), some (.ref (ad V 0)), some (.ref (ad V 47)), some (.ref (ad V 63)), some (.int (nI i)), some (.int (nI (fRoll h (gsx G (nI (i + 1)).toNatClampNeg)).1)), some (.int (b))] [] (wS G V s2 lo1) (cells + 10) (slots + 60) := by
    refine rGoto (tgt := 1384) dL_law_245 (by decide) ?_
    refine rForget (L := [some (.ref (gsb G)), some (.ref (ad V 0)), some (.ref (ad V 47)), some (.ref (ad V 63)), some (.int (nI i)), some (.int (nI (fRoll h (gsx G (nI (i + 1)).toNatClampNeg)).1)), some (.int (b))]) (L' := LwL G V i) (by exact ⟨rfl, rfl, rfl, rfl, rfl, trivial⟩) ?_
    exact kk s2 lo1 (fRoll h (gsx G (nI (i + 1)).toNatClampNeg)).2.2 (hall_far p1 q3) q2 (ok_roll hok)
  refine r_if_ne (tgt := 245) dL_law_230 (by decide) (fun c => fin) (fun c => ?_)
  have z := r_small le_roll c
  have e1 := p3 z
  have e2 := q1 z
  refine rAload_n dL_law_233 rfl ?_
  refine rIconst (v := nI 0) dL_law_234 (by decide) ?_
  refine sLald dL_law_235 hq (vp_in_nI (by decide) (by decide)) ?_
  refine rIload dL_law_236 rfl ?_
  refine rI2l dL_law_238 ?_
  refine rLcmp dL_law_239 ?_
  have e3 : lo1 (nI 0).toNatClampNeg = b.toInt64 := (by rw [nI_clamp (by decide), e1, ← e2])
  exact r_if_eq (tgt := 245) dL_law_240 (by decide) (fun _ => fin) (fun c => absurd (by rw [e3]; exact lg_same _) c)
set_option maxRecDepth 100000 in
set_option maxHeartbeats 4000000 in
theorem k_toggleLock {G : gG} {V : wV} {nm : String} {eh : List (Nat × Nat × Nat × Nat)} (hL : gsL G ≤ 1536) (ho : hallAt V 0) (hm : modAt V 47) (hq : shAt V 63 (11, 1, [])) (hq1 : ∀ k, (V.1 k).1 = 11 → k = 63) (hfl : (gl G).stackTraces = false) {i B cells slots : Nat} {s : sgT} {lo : Nat → Int64} {h : hT} (hi : i + 3 ≤ gsL G) (hh : hallIs s 0 h) (hr : modIs s 47 h) (hok : hallOk B h) (hB : B ≤ 19000) (hc : cells + 10 ≤ 651549) (hs : slots + 60 ≤ 7141458) (kk : ∀ (s' : sgT) (lo' : Nat → Int64) (h' : hT), hallIs s' 0 h' → modIs s' 47 h' → hallOk (B + 12) h' → RW G (mLw nm eh) code room_1 (QL G) 1384 (LwL G V i) [] (wS G V s' lo') (cells + 10) (slots + 60)) : RW G (mLw nm eh) code room_1 (QL G) 248 (LwL G V i) [] (wS G V s lo) cells slots := by
  refine rAload_n dL_law_248 rfl ?_
  refine rAload_n dL_law_249 rfl ?_
  refine rIload dL_law_250 rfl ?_
  refine rIconst (v := nI 1) dL_law_252 (by decide) ?_
  refine nIadd dL_law_253 ?_
  refine rSld dL_law_254 (vp_in_nI (by omega) (by omega)) ?_
  refine rAload_n dL_law_255 rfl ?_
  refine rCall (mc := (rmD 12 10 60).cells) (ms := (rmD 12 10 60).slots) (rest := []) (rRunSW (M' := mL_toggleLock) (As := [.ref (ad V 0), .int (gsx G (nI (i + 1)).toNatClampNeg), .ref (ad V 63)]) dL_law_256 (by decide) mk_L_toggleLock ms_L_toggleLock lw_L_97 ⟨(Nat.le_of_ble_eq_true rfl), (Nat.le_of_ble_eq_true rfl)⟩ rfl (Nat.le_of_ble_eq_true rfl) hc hs (c_L_toggleLock ho hq hq1 hh hok hB hfl)) (fun v w hv => ?_)
  obtain ⟨v, s1, lo1, rfl, rfl, rfl, p1, p2, p3⟩ := hv
  have hr1 := mod_far hr p2
  show RW G _ _ _ _ 259 _ [.int (nI (fToggle h (gsx G (nI (i + 1)).toNatClampNeg)).1)] _ _ _
  refine rIstore dL_law_259 (Nat.le_of_ble_eq_true rfl) ?_
  refine rAload_n dL_law_261 rfl ?_
  refine rAload_n dL_law_262 rfl ?_
  refine rIload dL_law_263 rfl ?_
  refine rIconst (v := nI 1) dL_law_265 (by decide) ?_
  refine nIadd dL_law_266 ?_
  refine rSld dL_law_267 (vp_in_nI (by omega) (by omega)) ?_
  refine sCallVi (M' := mX7_toggleLock) (rm' := rmD 9 0 0) (As := [.int (gsx G (nI (i + 1)).toNatClampNeg)]) (rest := []) dL_law_268 rfl mk_X7_toggleLock mi_X7_toggleLock ll_L_99 ⟨(Nat.le_of_ble_eq_true rfl), (Nat.le_of_ble_eq_true rfl)⟩ hm.1 (by decide) rfl rfl hc hs (c_X7_toggleLock hm hr1 hok hB) rfl (Nat.le_of_ble_eq_true rfl) (fun b s2 hb => ?_)
  obtain ⟨q0, q1, q2, q3⟩ := hb
  refine rIstore dL_law_271 (Nat.le_of_ble_eq_true rfl) ?_
  refine rAload_n dL_law_273 rfl ?_
  refine sCallVp (M' := mX7_thrown) (rm' := rmD 1 0 0) (As := []) (rest := []) dL_law_274 rfl mk_X7_thrown mi_X7_thrown ll_L_91 ⟨(Nat.le_of_ble_eq_true rfl), (Nat.le_of_ble_eq_true rfl)⟩ hm.1 (by decide) rfl rfl hc hs (c_X7_thrown hm) rfl (Nat.le_of_ble_eq_true rfl) (fun k hk => ?_)
  have hk2 : k = nI (fToggle h (gsx G (nI (i + 1)).toNatClampNeg)).1 := hk.trans q0
  subst hk2
  refine rIload dL_law_277 rfl ?_
  refine r_icmp_eq (tgt := 284) dL_law_279 (by decide) (fun _ => ?_) (fun c => absurd rfl c)
  refine rIload dL_law_284 rfl ?_
  have fin : RW G (mLw nm eh) code room_1 (QL G) 308 [some (.ref (gsb G)), some (.ref (ad V 0)), some (.ref (ad V 47)), some (.ref (ad V 63)), some (.int (nI i)), some (.int (nI (fToggle h (gsx G (nI (i + 1)).toNatClampNeg)).1)), some (.int (b))] [] (wS G V s2 lo1) (cells + 10) (slots + 60) := by
    refine rGoto (tgt := 1384) dL_law_308 (by decide) ?_
    refine rForget (L := [some (.ref (gsb G)), some (.ref (ad V 0)), some (.ref (ad V 47)), some (.ref (ad V 63)), some (.int (nI i)), some (.int (nI (fToggle h (gsx G (nI (i + 1)).toNatClampNeg)).1)), some (.int (b))]) (L' := LwL G V i) (by exact ⟨rfl, rfl, rfl, rfl, rfl, trivial⟩) ?_
    exact kk s2 lo1 (fToggle h (gsx G (nI (i + 1)).toNatClampNeg)).2.2 (hall_far p1 q3) q2 (ok_toggle hok)
  refine r_if_ne (tgt := 308) dL_law_286 (by decide) (fun c => fin) (fun c => ?_)
  have z := r_small le_toggleLock c
  have e1 := p3 z
  have e2 := q1 z
  refine rAload_n dL_law_289 rfl ?_
  refine rIconst (v := nI 0) dL_law_290 (by decide) ?_
  refine sLald dL_law_291 hq (vp_in_nI (by decide) (by decide)) ?_
  refine rIload dL_law_292 rfl ?_
  have e4 := tog_01 e2 z
  refine r_if_eq (tgt := 301) dL_law_294 (by decide) (fun c => ?_) (fun c => ?_)
  · subst c
    refine rLconst (v := 0) dL_law_301 rfl ?_
    refine rLcmp dL_law_302 ?_
    have e3 : lo1 (nI 0).toNatClampNeg = 0 := (by rw [nI_clamp (by decide), e1, ← e2]; rfl)
    exact r_if_eq (tgt := 308) dL_law_303 (by decide) (fun _ => fin) (fun c => absurd (by rw [e3]; exact lg_same _) c)
  · have c1 : b = nI 1 := e4.resolve_left c
    subst c1
    refine rLconst (v := 1) dL_law_297 rfl ?_
    refine rGoto (tgt := 302) dL_law_298 (by decide) ?_
    refine rLcmp dL_law_302 ?_
    have e3 : lo1 (nI 0).toNatClampNeg = 1 := (by rw [nI_clamp (by decide), e1, ← e2]; rfl)
    exact r_if_eq (tgt := 308) dL_law_303 (by decide) (fun _ => fin) (fun c => absurd (by rw [e3]; exact lg_same _) c)
set_option maxRecDepth 100000 in
set_option maxHeartbeats 4000000 in
theorem k_buyLevel {G : gG} {V : wV} {nm : String} {eh : List (Nat × Nat × Nat × Nat)} (hL : gsL G ≤ 1536) (ho : hallAt V 0) (hm : modAt V 47) (hq : shAt V 63 (11, 1, [])) (hq1 : ∀ k, (V.1 k).1 = 11 → k = 63) (hfl : (gl G).stackTraces = false) {i B cells slots : Nat} {s : sgT} {lo : Nat → Int64} {h : hT} (hi : i + 3 ≤ gsL G) (hh : hallIs s 0 h) (hr : modIs s 47 h) (hok : hallOk B h) (hB : B ≤ 19000) (hc : cells + 10 ≤ 651549) (hs : slots + 60 ≤ 7141458) (kk : ∀ (s' : sgT) (lo' : Nat → Int64) (h' : hT), hallIs s' 0 h' → modIs s' 47 h' → hallOk (B + 12) h' → RW G (mLw nm eh) code room_1 (QL G) 1384 (LwL G V i) [] (wS G V s' lo') (cells + 10) (slots + 60)) : RW G (mLw nm eh) code room_1 (QL G) 311 (LwL G V i) [] (wS G V s lo) cells slots := by
  refine rAload_n dL_law_311 rfl ?_
  refine rAload_n dL_law_312 rfl ?_
  refine rIload dL_law_313 rfl ?_
  refine rIconst (v := nI 1) dL_law_315 (by decide) ?_
  refine nIadd dL_law_316 ?_
  refine rSld dL_law_317 (vp_in_nI (by omega) (by omega)) ?_
  refine rAload_n dL_law_318 rfl ?_
  refine rCall (mc := (rmD 12 10 60).cells) (ms := (rmD 12 10 60).slots) (rest := []) (rRunSW (M' := mL_buyLevel) (As := [.ref (ad V 0), .int (gsx G (nI (i + 1)).toNatClampNeg), .ref (ad V 63)]) dL_law_319 (by decide) mk_L_buyLevel ms_L_buyLevel lw_L_100 ⟨(Nat.le_of_ble_eq_true rfl), (Nat.le_of_ble_eq_true rfl)⟩ rfl (Nat.le_of_ble_eq_true rfl) hc hs (c_L_buyLevel ho hq hq1 hh hok hB hfl)) (fun v w hv => ?_)
  obtain ⟨v, s1, lo1, rfl, rfl, rfl, p1, p2, p3⟩ := hv
  have hr1 := mod_far hr p2
  show RW G _ _ _ _ 322 _ [.int (nI (fLevel h (gsx G (nI (i + 1)).toNatClampNeg)).1)] _ _ _
  refine rIstore dL_law_322 (Nat.le_of_ble_eq_true rfl) ?_
  refine rAload_n dL_law_324 rfl ?_
  refine rAload_n dL_law_325 rfl ?_
  refine rIload dL_law_326 rfl ?_
  refine rIconst (v := nI 1) dL_law_328 (by decide) ?_
  refine nIadd dL_law_329 ?_
  refine rSld dL_law_330 (vp_in_nI (by omega) (by omega)) ?_
  refine sCallVi (M' := mX7_buyLevel) (rm' := rmD 9 0 0) (As := [.int (gsx G (nI (i + 1)).toNatClampNeg)]) (rest := []) dL_law_331 rfl mk_X7_buyLevel mi_X7_buyLevel ll_L_102 ⟨(Nat.le_of_ble_eq_true rfl), (Nat.le_of_ble_eq_true rfl)⟩ hm.1 (by decide) rfl rfl hc hs (c_X7_buyLevel hm hr1 hok hB) rfl (Nat.le_of_ble_eq_true rfl) (fun b s2 hb => ?_)
  obtain ⟨q0, q1, q2, q3⟩ := hb
  refine rIstore dL_law_334 (Nat.le_of_ble_eq_true rfl) ?_
  refine rAload_n dL_law_336 rfl ?_
  refine sCallVp (M' := mX7_thrown) (rm' := rmD 1 0 0) (As := []) (rest := []) dL_law_337 rfl mk_X7_thrown mi_X7_thrown ll_L_91 ⟨(Nat.le_of_ble_eq_true rfl), (Nat.le_of_ble_eq_true rfl)⟩ hm.1 (by decide) rfl rfl hc hs (c_X7_thrown hm) rfl (Nat.le_of_ble_eq_true rfl) (fun k hk => ?_)
  have hk2 : k = nI (fLevel h (gsx G (nI (i + 1)).toNatClampNeg)).1 := hk.trans q0
  subst hk2
  refine rIload dL_law_340 rfl ?_
  refine r_icmp_eq (tgt := 347) dL_law_342 (by decide) (fun _ => ?_) (fun c => absurd rfl c)
  refine rIload dL_law_347 rfl ?_
  have fin : RW G (mLw nm eh) code room_1 (QL G) 364 [some (.ref (gsb G)), some (.ref (ad V 0)), some (.ref (ad V 47)), some (.ref (ad V 63)), some (.int (nI i)), some (.int (nI (fLevel h (gsx G (nI (i + 1)).toNatClampNeg)).1)), some (.int (b))] [] (wS G V s2 lo1) (cells + 10) (slots + 60) := by
    refine rGoto (tgt := 1384) dL_law_364 (by decide) ?_
    refine rForget (L := [some (.ref (gsb G)), some (.ref (ad V 0)), some (.ref (ad V 47)), some (.ref (ad V 63)), some (.int (nI i)), some (.int (nI (fLevel h (gsx G (nI (i + 1)).toNatClampNeg)).1)), some (.int (b))]) (L' := LwL G V i) (by exact ⟨rfl, rfl, rfl, rfl, rfl, trivial⟩) ?_
    exact kk s2 lo1 (fLevel h (gsx G (nI (i + 1)).toNatClampNeg)).2.2 (hall_far p1 q3) q2 (ok_level hok)
  refine r_if_ne (tgt := 364) dL_law_349 (by decide) (fun c => fin) (fun c => ?_)
  have z := r_small le_buyLevel c
  have e1 := p3 z
  have e2 := q1 z
  refine rAload_n dL_law_352 rfl ?_
  refine rIconst (v := nI 0) dL_law_353 (by decide) ?_
  refine sLald dL_law_354 hq (vp_in_nI (by decide) (by decide)) ?_
  refine rIload dL_law_355 rfl ?_
  refine rI2l dL_law_357 ?_
  refine rLcmp dL_law_358 ?_
  have e3 : lo1 (nI 0).toNatClampNeg = b.toInt64 := (by rw [nI_clamp (by decide), e1, ← e2])
  exact r_if_eq (tgt := 364) dL_law_359 (by decide) (fun _ => fin) (fun c => absurd (by rw [e3]; exact lg_same _) c)
set_option maxRecDepth 100000 in
set_option maxHeartbeats 4000000 in
theorem k_buy {G : gG} {V : wV} {nm : String} {eh : List (Nat × Nat × Nat × Nat)} (hL : gsL G ≤ 1536) (ho : hallAt V 0) (hm : modAt V 47) (hq : shAt V 63 (11, 1, [])) (hq1 : ∀ k, (V.1 k).1 = 11 → k = 63) (hfl : (gl G).stackTraces = false) {i B cells slots : Nat} {s : sgT} {lo : Nat → Int64} {h : hT} (hi : i + 3 ≤ gsL G) (hh : hallIs s 0 h) (hr : modIs s 47 h) (hok : hallOk B h) (hB : B ≤ 19000) (hc : cells + 10 ≤ 651549) (hs : slots + 60 ≤ 7141458) (kk : ∀ (s' : sgT) (lo' : Nat → Int64) (h' : hT), hallIs s' 0 h' → modIs s' 47 h' → hallOk (B + 12) h' → RW G (mLw nm eh) code room_1 (QL G) 1384 (LwL G V i) [] (wS G V s' lo') (cells + 10) (slots + 60)) : RW G (mLw nm eh) code room_1 (QL G) 367 (LwL G V i) [] (wS G V s lo) cells slots := by
  refine rAload_n dL_law_367 rfl ?_
  refine rAload_n dL_law_368 rfl ?_
  refine rIload dL_law_369 rfl ?_
  refine rIconst (v := nI 1) dL_law_371 (by decide) ?_
  refine nIadd dL_law_372 ?_
  refine rSld dL_law_373 (vp_in_nI (by omega) (by omega)) ?_
  refine rAload_n dL_law_374 rfl ?_
  refine rIload dL_law_375 rfl ?_
  refine rIconst (v := nI 2) dL_law_377 (by decide) ?_
  refine nIadd dL_law_378 ?_
  refine rSld dL_law_379 (vp_in_nI (by omega) (by omega)) ?_
  refine rAload_n dL_law_380 rfl ?_
  refine rCall (mc := (rmD 12 10 60).cells) (ms := (rmD 12 10 60).slots) (rest := []) (rRunSW (M' := mL_buy) (As := [.ref (ad V 0), .int (gsx G (nI (i + 1)).toNatClampNeg), .int (gsx G (nI (i + 2)).toNatClampNeg), .ref (ad V 63)]) dL_law_381 (by decide) mk_L_buy ms_L_buy lw_L_103 ⟨(Nat.le_of_ble_eq_true rfl), (Nat.le_of_ble_eq_true rfl)⟩ rfl (Nat.le_of_ble_eq_true rfl) hc hs (c_L_buy ho hq hq1 hh hok hB hfl)) (fun v w hv => ?_)
  obtain ⟨v, s1, lo1, rfl, rfl, rfl, p1, p2, p3⟩ := hv
  have hr1 := mod_far hr p2
  show RW G _ _ _ _ 384 _ [.int (nI (fBuy h (gsx G (nI (i + 1)).toNatClampNeg) (gsx G (nI (i + 2)).toNatClampNeg)).1)] _ _ _
  refine rIstore dL_law_384 (Nat.le_of_ble_eq_true rfl) ?_
  refine rAload_n dL_law_386 rfl ?_
  refine rAload_n dL_law_387 rfl ?_
  refine rIload dL_law_388 rfl ?_
  refine rIconst (v := nI 1) dL_law_390 (by decide) ?_
  refine nIadd dL_law_391 ?_
  refine rSld dL_law_392 (vp_in_nI (by omega) (by omega)) ?_
  refine rAload_n dL_law_393 rfl ?_
  refine rIload dL_law_394 rfl ?_
  refine rIconst (v := nI 2) dL_law_396 (by decide) ?_
  refine nIadd dL_law_397 ?_
  refine rSld dL_law_398 (vp_in_nI (by omega) (by omega)) ?_
  refine sCallVi (M' := mX7_buy) (rm' := rmD 9 0 0) (As := [.int (gsx G (nI (i + 1)).toNatClampNeg), .int (gsx G (nI (i + 2)).toNatClampNeg)]) (rest := []) dL_law_399 rfl mk_X7_buy mi_X7_buy ll_L_106 ⟨(Nat.le_of_ble_eq_true rfl), (Nat.le_of_ble_eq_true rfl)⟩ hm.1 (by decide) rfl rfl hc hs (c_X7_buy hm hr1 hok hB) rfl (Nat.le_of_ble_eq_true rfl) (fun b s2 hb => ?_)
  obtain ⟨q0, q1, q2, q3⟩ := hb
  refine rIstore dL_law_402 (Nat.le_of_ble_eq_true rfl) ?_
  refine rAload_n dL_law_404 rfl ?_
  refine sCallVp (M' := mX7_thrown) (rm' := rmD 1 0 0) (As := []) (rest := []) dL_law_405 rfl mk_X7_thrown mi_X7_thrown ll_L_91 ⟨(Nat.le_of_ble_eq_true rfl), (Nat.le_of_ble_eq_true rfl)⟩ hm.1 (by decide) rfl rfl hc hs (c_X7_thrown hm) rfl (Nat.le_of_ble_eq_true rfl) (fun k hk => ?_)
  have hk2 : k = nI (fBuy h (gsx G (nI (i + 1)).toNatClampNeg) (gsx G (nI (i + 2)).toNatClampNeg)).1 := hk.trans q0
  subst hk2
  refine rIload dL_law_408 rfl ?_
  refine r_icmp_eq (tgt := 415) dL_law_410 (by decide) (fun _ => ?_) (fun c => absurd rfl c)
  refine rIload dL_law_415 rfl ?_
  have fin : RW G (mLw nm eh) code room_1 (QL G) 432 [some (.ref (gsb G)), some (.ref (ad V 0)), some (.ref (ad V 47)), some (.ref (ad V 63)), some (.int (nI i)), some (.int (nI (fBuy h (gsx G (nI (i + 1)).toNatClampNeg) (gsx G (nI (i + 2)).toNatClampNeg)).1)), some (.int (b))] [] (wS G V s2 lo1) (cells + 10) (slots + 60) := by
    refine rGoto (tgt := 1384) dL_law_432 (by decide) ?_
    refine rForget (L := [some (.ref (gsb G)), some (.ref (ad V 0)), some (.ref (ad V 47)), some (.ref (ad V 63)), some (.int (nI i)), some (.int (nI (fBuy h (gsx G (nI (i + 1)).toNatClampNeg) (gsx G (nI (i + 2)).toNatClampNeg)).1)), some (.int (b))]) (L' := LwL G V i) (by exact ⟨rfl, rfl, rfl, rfl, rfl, trivial⟩) ?_
    exact kk s2 lo1 (fBuy h (gsx G (nI (i + 1)).toNatClampNeg) (gsx G (nI (i + 2)).toNatClampNeg)).2.2 (hall_far p1 q3) q2 (ok_buy hok)
  refine r_if_ne (tgt := 432) dL_law_417 (by decide) (fun c => fin) (fun c => ?_)
  have z := r_small le_buy c
  have e1 := p3 z
  have e2 := q1 z
  refine rAload_n dL_law_420 rfl ?_
  refine rIconst (v := nI 0) dL_law_421 (by decide) ?_
  refine sLald dL_law_422 hq (vp_in_nI (by decide) (by decide)) ?_
  refine rIload dL_law_423 rfl ?_
  refine rI2l dL_law_425 ?_
  refine rLcmp dL_law_426 ?_
  have e3 : lo1 (nI 0).toNatClampNeg = b.toInt64 := (by rw [nI_clamp (by decide), e1, ← e2])
  exact r_if_eq (tgt := 432) dL_law_427 (by decide) (fun _ => fin) (fun c => absurd (by rw [e3]; exact lg_same _) c)
set_option maxRecDepth 100000 in
set_option maxHeartbeats 4000000 in
theorem k_sell {G : gG} {V : wV} {nm : String} {eh : List (Nat × Nat × Nat × Nat)} (hL : gsL G ≤ 1536) (ho : hallAt V 0) (hm : modAt V 47) (hq : shAt V 63 (11, 1, [])) (hq1 : ∀ k, (V.1 k).1 = 11 → k = 63) (hfl : (gl G).stackTraces = false) {i B cells slots : Nat} {s : sgT} {lo : Nat → Int64} {h : hT} (hi : i + 3 ≤ gsL G) (hh : hallIs s 0 h) (hr : modIs s 47 h) (hok : hallOk B h) (hB : B ≤ 19000) (hc : cells + 10 ≤ 651549) (hs : slots + 60 ≤ 7141458) (kk : ∀ (s' : sgT) (lo' : Nat → Int64) (h' : hT), hallIs s' 0 h' → modIs s' 47 h' → hallOk (B + 12) h' → RW G (mLw nm eh) code room_1 (QL G) 1384 (LwL G V i) [] (wS G V s' lo') (cells + 10) (slots + 60)) : RW G (mLw nm eh) code room_1 (QL G) 435 (LwL G V i) [] (wS G V s lo) cells slots := by
  refine rAload_n dL_law_435 rfl ?_
  refine rAload_n dL_law_436 rfl ?_
  refine rIload dL_law_437 rfl ?_
  refine rIconst (v := nI 1) dL_law_439 (by decide) ?_
  refine nIadd dL_law_440 ?_
  refine rSld dL_law_441 (vp_in_nI (by omega) (by omega)) ?_
  refine rAload_n dL_law_442 rfl ?_
  refine rIload dL_law_443 rfl ?_
  refine rIconst (v := nI 2) dL_law_445 (by decide) ?_
  refine nIadd dL_law_446 ?_
  refine rSld dL_law_447 (vp_in_nI (by omega) (by omega)) ?_
  refine rAload_n dL_law_448 rfl ?_
  refine rCall (mc := (rmD 12 10 60).cells) (ms := (rmD 12 10 60).slots) (rest := []) (rRunSW (M' := mL_sell) (As := [.ref (ad V 0), .int (gsx G (nI (i + 1)).toNatClampNeg), .int (gsx G (nI (i + 2)).toNatClampNeg), .ref (ad V 63)]) dL_law_449 (by decide) mk_L_sell ms_L_sell lw_L_107 ⟨(Nat.le_of_ble_eq_true rfl), (Nat.le_of_ble_eq_true rfl)⟩ rfl (Nat.le_of_ble_eq_true rfl) hc hs (c_L_sell ho hq hq1 hh hok hB hfl)) (fun v w hv => ?_)
  obtain ⟨v, s1, lo1, rfl, rfl, rfl, p1, p2, p3⟩ := hv
  have hr1 := mod_far hr p2
  show RW G _ _ _ _ 452 _ [.int (nI (fSell h (gsx G (nI (i + 1)).toNatClampNeg) (gsx G (nI (i + 2)).toNatClampNeg)).1)] _ _ _
  refine rIstore dL_law_452 (Nat.le_of_ble_eq_true rfl) ?_
  refine rAload_n dL_law_454 rfl ?_
  refine rAload_n dL_law_455 rfl ?_
  refine rIload dL_law_456 rfl ?_
  refine rIconst (v := nI 1) dL_law_458 (by decide) ?_
  refine nIadd dL_law_459 ?_
  refine rSld dL_law_460 (vp_in_nI (by omega) (by omega)) ?_
  refine rAload_n dL_law_461 rfl ?_
  refine rIload dL_law_462 rfl ?_
  refine rIconst (v := nI 2) dL_law_464 (by decide) ?_
  refine nIadd dL_law_465 ?_
  refine rSld dL_law_466 (vp_in_nI (by omega) (by omega)) ?_
  refine sCallVi (M' := mX7_sell) (rm' := rmD 9 0 0) (As := [.int (gsx G (nI (i + 1)).toNatClampNeg), .int (gsx G (nI (i + 2)).toNatClampNeg)]) (rest := []) dL_law_467 rfl mk_X7_sell mi_X7_sell ll_L_109 ⟨(Nat.le_of_ble_eq_true rfl), (Nat.le_of_ble_eq_true rfl)⟩ hm.1 (by decide) rfl rfl hc hs (c_X7_sell hm hr1 hok hB) rfl (Nat.le_of_ble_eq_true rfl) (fun b s2 hb => ?_)
  obtain ⟨q0, q1, q2, q3⟩ := hb
  refine rIstore dL_law_470 (Nat.le_of_ble_eq_true rfl) ?_
  refine rAload_n dL_law_472 rfl ?_
  refine sCallVp (M' := mX7_thrown) (rm' := rmD 1 0 0) (As := []) (rest := []) dL_law_473 rfl mk_X7_thrown mi_X7_thrown ll_L_91 ⟨(Nat.le_of_ble_eq_true rfl), (Nat.le_of_ble_eq_true rfl)⟩ hm.1 (by decide) rfl rfl hc hs (c_X7_thrown hm) rfl (Nat.le_of_ble_eq_true rfl) (fun k hk => ?_)
  have hk2 : k = nI (fSell h (gsx G (nI (i + 1)).toNatClampNeg) (gsx G (nI (i + 2)).toNatClampNeg)).1 := hk.trans q0
  subst hk2
  refine rIload dL_law_476 rfl ?_
  refine r_icmp_eq (tgt := 483) dL_law_478 (by decide) (fun _ => ?_) (fun c => absurd rfl c)
  refine rIload dL_law_483 rfl ?_
  have fin : RW G (mLw nm eh) code room_1 (QL G) 500 [some (.ref (gsb G)), some (.ref (ad V 0)), some (.ref (ad V 47)), some (.ref (ad V 63)), some (.int (nI i)), some (.int (nI (fSell h (gsx G (nI (i + 1)).toNatClampNeg) (gsx G (nI (i + 2)).toNatClampNeg)).1)), some (.int (b))] [] (wS G V s2 lo1) (cells + 10) (slots + 60) := by
    refine rGoto (tgt := 1384) dL_law_500 (by decide) ?_
    refine rForget (L := [some (.ref (gsb G)), some (.ref (ad V 0)), some (.ref (ad V 47)), some (.ref (ad V 63)), some (.int (nI i)), some (.int (nI (fSell h (gsx G (nI (i + 1)).toNatClampNeg) (gsx G (nI (i + 2)).toNatClampNeg)).1)), some (.int (b))]) (L' := LwL G V i) (by exact ⟨rfl, rfl, rfl, rfl, rfl, trivial⟩) ?_
    exact kk s2 lo1 (fSell h (gsx G (nI (i + 1)).toNatClampNeg) (gsx G (nI (i + 2)).toNatClampNeg)).2.2 (hall_far p1 q3) q2 (ok_sell hok)
  refine r_if_ne (tgt := 500) dL_law_485 (by decide) (fun c => fin) (fun c => ?_)
  have z := r_small le_sell c
  have e1 := p3 z
  have e2 := q1 z
  refine rAload_n dL_law_488 rfl ?_
  refine rIconst (v := nI 0) dL_law_489 (by decide) ?_
  refine sLald dL_law_490 hq (vp_in_nI (by decide) (by decide)) ?_
  refine rIload dL_law_491 rfl ?_
  refine rI2l dL_law_493 ?_
  refine rLcmp dL_law_494 ?_
  have e3 : lo1 (nI 0).toNatClampNeg = b.toInt64 := (by rw [nI_clamp (by decide), e1, ← e2])
  exact r_if_eq (tgt := 500) dL_law_495 (by decide) (fun _ => fin) (fun c => absurd (by rw [e3]; exact lg_same _) c)
set_option maxRecDepth 100000 in
set_option maxHeartbeats 4000000 in
theorem k_toBoard {G : gG} {V : wV} {nm : String} {eh : List (Nat × Nat × Nat × Nat)} (hL : gsL G ≤ 1536) (ho : hallAt V 0) (hm : modAt V 47) (hq : shAt V 63 (11, 1, [])) (hq1 : ∀ k, (V.1 k).1 = 11 → k = 63) (hfl : (gl G).stackTraces = false) {i B cells slots : Nat} {s : sgT} {lo : Nat → Int64} {h : hT} (hi : i + 3 ≤ gsL G) (hh : hallIs s 0 h) (hr : modIs s 47 h) (hok : hallOk B h) (hB : B ≤ 19000) (hc : cells + 10 ≤ 651549) (hs : slots + 60 ≤ 7141458) (kk : ∀ (s' : sgT) (lo' : Nat → Int64) (h' : hT), hallIs s' 0 h' → modIs s' 47 h' → hallOk (B + 12) h' → RW G (mLw nm eh) code room_1 (QL G) 1384 (LwL G V i) [] (wS G V s' lo') (cells + 10) (slots + 60)) : RW G (mLw nm eh) code room_1 (QL G) 503 (LwL G V i) [] (wS G V s lo) cells slots := by
  refine rAload_n dL_law_503 rfl ?_
  refine rAload_n dL_law_504 rfl ?_
  refine rIload dL_law_505 rfl ?_
  refine rIconst (v := nI 1) dL_law_507 (by decide) ?_
  refine nIadd dL_law_508 ?_
  refine rSld dL_law_509 (vp_in_nI (by omega) (by omega)) ?_
  refine rAload_n dL_law_510 rfl ?_
  refine rIload dL_law_511 rfl ?_
  refine rIconst (v := nI 2) dL_law_513 (by decide) ?_
  refine nIadd dL_law_514 ?_
  refine rSld dL_law_515 (vp_in_nI (by omega) (by omega)) ?_
  refine rAload_n dL_law_516 rfl ?_
  refine rCall (mc := (rmD 12 10 60).cells) (ms := (rmD 12 10 60).slots) (rest := []) (rRunSW (M' := mL_toBoard) (As := [.ref (ad V 0), .int (gsx G (nI (i + 1)).toNatClampNeg), .int (gsx G (nI (i + 2)).toNatClampNeg), .ref (ad V 63)]) dL_law_517 (by decide) mk_L_toBoard ms_L_toBoard lw_L_110 ⟨(Nat.le_of_ble_eq_true rfl), (Nat.le_of_ble_eq_true rfl)⟩ rfl (Nat.le_of_ble_eq_true rfl) hc hs (c_L_toBoard ho hq hq1 hh hok hB hfl)) (fun v w hv => ?_)
  obtain ⟨v, s1, lo1, rfl, rfl, rfl, p1, p2, p3⟩ := hv
  have hr1 := mod_far hr p2
  show RW G _ _ _ _ 520 _ [.int (nI (fBoard h (gsx G (nI (i + 1)).toNatClampNeg) (gsx G (nI (i + 2)).toNatClampNeg)).1)] _ _ _
  refine rIstore dL_law_520 (Nat.le_of_ble_eq_true rfl) ?_
  refine rAload_n dL_law_522 rfl ?_
  refine rAload_n dL_law_523 rfl ?_
  refine rIload dL_law_524 rfl ?_
  refine rIconst (v := nI 1) dL_law_526 (by decide) ?_
  refine nIadd dL_law_527 ?_
  refine rSld dL_law_528 (vp_in_nI (by omega) (by omega)) ?_
  refine rAload_n dL_law_529 rfl ?_
  refine rIload dL_law_530 rfl ?_
  refine rIconst (v := nI 2) dL_law_532 (by decide) ?_
  refine nIadd dL_law_533 ?_
  refine rSld dL_law_534 (vp_in_nI (by omega) (by omega)) ?_
  refine sCallVi (M' := mX7_toBoard) (rm' := rmD 9 0 0) (As := [.int (gsx G (nI (i + 1)).toNatClampNeg), .int (gsx G (nI (i + 2)).toNatClampNeg)]) (rest := []) dL_law_535 rfl mk_X7_toBoard mi_X7_toBoard ll_L_112 ⟨(Nat.le_of_ble_eq_true rfl), (Nat.le_of_ble_eq_true rfl)⟩ hm.1 (by decide) rfl rfl hc hs (c_X7_toBoard hm hr1 hok hB) rfl (Nat.le_of_ble_eq_true rfl) (fun b s2 hb => ?_)
  obtain ⟨q0, q1, q2, q3⟩ := hb
  refine rIstore dL_law_538 (Nat.le_of_ble_eq_true rfl) ?_
  refine rAload_n dL_law_540 rfl ?_
  refine sCallVp (M' := mX7_thrown) (rm' := rmD 1 0 0) (As := []) (rest := []) dL_law_541 rfl mk_X7_thrown mi_X7_thrown ll_L_91 ⟨(Nat.le_of_ble_eq_true rfl), (Nat.le_of_ble_eq_true rfl)⟩ hm.1 (by decide) rfl rfl hc hs (c_X7_thrown hm) rfl (Nat.le_of_ble_eq_true rfl) (fun k hk => ?_)
  have hk2 : k = nI (fBoard h (gsx G (nI (i + 1)).toNatClampNeg) (gsx G (nI (i + 2)).toNatClampNeg)).1 := hk.trans q0
  subst hk2
  refine rIload dL_law_544 rfl ?_
  refine r_icmp_eq (tgt := 551) dL_law_546 (by decide) (fun _ => ?_) (fun c => absurd rfl c)
  refine rIload dL_law_551 rfl ?_
  have fin : RW G (mLw nm eh) code room_1 (QL G) 568 [some (.ref (gsb G)), some (.ref (ad V 0)), some (.ref (ad V 47)), some (.ref (ad V 63)), some (.int (nI i)), some (.int (nI (fBoard h (gsx G (nI (i + 1)).toNatClampNeg) (gsx G (nI (i + 2)).toNatClampNeg)).1)), some (.int (b))] [] (wS G V s2 lo1) (cells + 10) (slots + 60) := by
    refine rGoto (tgt := 1384) dL_law_568 (by decide) ?_
    refine rForget (L := [some (.ref (gsb G)), some (.ref (ad V 0)), some (.ref (ad V 47)), some (.ref (ad V 63)), some (.int (nI i)), some (.int (nI (fBoard h (gsx G (nI (i + 1)).toNatClampNeg) (gsx G (nI (i + 2)).toNatClampNeg)).1)), some (.int (b))]) (L' := LwL G V i) (by exact ⟨rfl, rfl, rfl, rfl, rfl, trivial⟩) ?_
    exact kk s2 lo1 (fBoard h (gsx G (nI (i + 1)).toNatClampNeg) (gsx G (nI (i + 2)).toNatClampNeg)).2.2 (hall_far p1 q3) q2 (ok_board hok)
  refine r_if_ne (tgt := 568) dL_law_553 (by decide) (fun c => fin) (fun c => ?_)
  have z := r_small le_toBoard c
  have e1 := p3 z
  have e2 := q1 z
  refine rAload_n dL_law_556 rfl ?_
  refine rIconst (v := nI 0) dL_law_557 (by decide) ?_
  refine sLald dL_law_558 hq (vp_in_nI (by decide) (by decide)) ?_
  refine rIload dL_law_559 rfl ?_
  refine rI2l dL_law_561 ?_
  refine rLcmp dL_law_562 ?_
  have e3 : lo1 (nI 0).toNatClampNeg = b.toInt64 := (by rw [nI_clamp (by decide), e1, ← e2])
  exact r_if_eq (tgt := 568) dL_law_563 (by decide) (fun _ => fin) (fun c => absurd (by rw [e3]; exact lg_same _) c)
set_option maxRecDepth 100000 in
set_option maxHeartbeats 4000000 in
theorem k_toBench {G : gG} {V : wV} {nm : String} {eh : List (Nat × Nat × Nat × Nat)} (hL : gsL G ≤ 1536) (ho : hallAt V 0) (hm : modAt V 47) (hq : shAt V 63 (11, 1, [])) (hq1 : ∀ k, (V.1 k).1 = 11 → k = 63) (hfl : (gl G).stackTraces = false) {i B cells slots : Nat} {s : sgT} {lo : Nat → Int64} {h : hT} (hi : i + 3 ≤ gsL G) (hh : hallIs s 0 h) (hr : modIs s 47 h) (hok : hallOk B h) (hB : B ≤ 19000) (hc : cells + 10 ≤ 651549) (hs : slots + 60 ≤ 7141458) (kk : ∀ (s' : sgT) (lo' : Nat → Int64) (h' : hT), hallIs s' 0 h' → modIs s' 47 h' → hallOk (B + 12) h' → RW G (mLw nm eh) code room_1 (QL G) 1384 (LwL G V i) [] (wS G V s' lo') (cells + 10) (slots + 60)) : RW G (mLw nm eh) code room_1 (QL G) 571 (LwL G V i) [] (wS G V s lo) cells slots := by
  refine rAload_n dL_law_571 rfl ?_
  refine rAload_n dL_law_572 rfl ?_
  refine rIload dL_law_573 rfl ?_
  refine rIconst (v := nI 1) dL_law_575 (by decide) ?_
  refine nIadd dL_law_576 ?_
  refine rSld dL_law_577 (vp_in_nI (by omega) (by omega)) ?_
  refine rAload_n dL_law_578 rfl ?_
  refine rIload dL_law_579 rfl ?_
  refine rIconst (v := nI 2) dL_law_581 (by decide) ?_
  refine nIadd dL_law_582 ?_
  refine rSld dL_law_583 (vp_in_nI (by omega) (by omega)) ?_
  refine rAload_n dL_law_584 rfl ?_
  refine rCall (mc := (rmD 12 10 60).cells) (ms := (rmD 12 10 60).slots) (rest := []) (rRunSW (M' := mL_toBench) (As := [.ref (ad V 0), .int (gsx G (nI (i + 1)).toNatClampNeg), .int (gsx G (nI (i + 2)).toNatClampNeg), .ref (ad V 63)]) dL_law_585 (by decide) mk_L_toBench ms_L_toBench lw_L_113 ⟨(Nat.le_of_ble_eq_true rfl), (Nat.le_of_ble_eq_true rfl)⟩ rfl (Nat.le_of_ble_eq_true rfl) hc hs (c_L_toBench ho hq hq1 hh hok hB hfl)) (fun v w hv => ?_)
  obtain ⟨v, s1, lo1, rfl, rfl, rfl, p1, p2, p3⟩ := hv
  have hr1 := mod_far hr p2
  show RW G _ _ _ _ 588 _ [.int (nI (fBench h (gsx G (nI (i + 1)).toNatClampNeg) (gsx G (nI (i + 2)).toNatClampNeg)).1)] _ _ _
  refine rIstore dL_law_588 (Nat.le_of_ble_eq_true rfl) ?_
  refine rAload_n dL_law_590 rfl ?_
  refine rAload_n dL_law_591 rfl ?_
  refine rIload dL_law_592 rfl ?_
  refine rIconst (v := nI 1) dL_law_594 (by decide) ?_
  refine nIadd dL_law_595 ?_
  refine rSld dL_law_596 (vp_in_nI (by omega) (by omega)) ?_
  refine rAload_n dL_law_597 rfl ?_
  refine rIload dL_law_598 rfl ?_
  refine rIconst (v := nI 2) dL_law_600 (by decide) ?_
  refine nIadd dL_law_601 ?_
  refine rSld dL_law_602 (vp_in_nI (by omega) (by omega)) ?_
  refine sCallVi (M' := mX7_toBench) (rm' := rmD 9 0 0) (As := [.int (gsx G (nI (i + 1)).toNatClampNeg), .int (gsx G (nI (i + 2)).toNatClampNeg)]) (rest := []) dL_law_603 rfl mk_X7_toBench mi_X7_toBench ll_L_115 ⟨(Nat.le_of_ble_eq_true rfl), (Nat.le_of_ble_eq_true rfl)⟩ hm.1 (by decide) rfl rfl hc hs (c_X7_toBench hm hr1 hok hB) rfl (Nat.le_of_ble_eq_true rfl) (fun b s2 hb => ?_)
  obtain ⟨q0, q1, q2, q3⟩ := hb
  refine rIstore dL_law_606 (Nat.le_of_ble_eq_true rfl) ?_
  refine rAload_n dL_law_608 rfl ?_
  refine sCallVp (M' := mX7_thrown) (rm' := rmD 1 0 0) (As := []) (rest := []) dL_law_609 rfl mk_X7_thrown mi_X7_thrown ll_L_91 ⟨(Nat.le_of_ble_eq_true rfl), (Nat.le_of_ble_eq_true rfl)⟩ hm.1 (by decide) rfl rfl hc hs (c_X7_thrown hm) rfl (Nat.le_of_ble_eq_true rfl) (fun k hk => ?_)
  have hk2 : k = nI (fBench h (gsx G (nI (i + 1)).toNatClampNeg) (gsx G (nI (i + 2)).toNatClampNeg)).1 := hk.trans q0
  subst hk2
  refine rIload dL_law_612 rfl ?_
  refine r_icmp_eq (tgt := 619) dL_law_614 (by decide) (fun _ => ?_) (fun c => absurd rfl c)
  refine rIload dL_law_619 rfl ?_
  have fin : RW G (mLw nm eh) code room_1 (QL G) 636 [some (.ref (gsb G)), some (.ref (ad V 0)), some (.ref (ad V 47)), some (.ref (ad V 63)), some (.int (nI i)), some (.int (nI (fBench h (gsx G (nI (i + 1)).toNatClampNeg) (gsx G (nI (i + 2)).toNatClampNeg)).1)), some (.int (b))] [] (wS G V s2 lo1) (cells + 10) (slots + 60) := by
    refine rGoto (tgt := 1384) dL_law_636 (by decide) ?_
    refine rForget (L := [some (.ref (gsb G)), some (.ref (ad V 0)), some (.ref (ad V 47)), some (.ref (ad V 63)), some (.int (nI i)), some (.int (nI (fBench h (gsx G (nI (i + 1)).toNatClampNeg) (gsx G (nI (i + 2)).toNatClampNeg)).1)), some (.int (b))]) (L' := LwL G V i) (by exact ⟨rfl, rfl, rfl, rfl, rfl, trivial⟩) ?_
    exact kk s2 lo1 (fBench h (gsx G (nI (i + 1)).toNatClampNeg) (gsx G (nI (i + 2)).toNatClampNeg)).2.2 (hall_far p1 q3) q2 (ok_bench hok)
  refine r_if_ne (tgt := 636) dL_law_621 (by decide) (fun c => fin) (fun c => ?_)
  have z := r_small le_toBench c
  have e1 := p3 z
  have e2 := q1 z
  refine rAload_n dL_law_624 rfl ?_
  refine rIconst (v := nI 0) dL_law_625 (by decide) ?_
  refine sLald dL_law_626 hq (vp_in_nI (by decide) (by decide)) ?_
  refine rIload dL_law_627 rfl ?_
  refine rI2l dL_law_629 ?_
  refine rLcmp dL_law_630 ?_
  have e3 : lo1 (nI 0).toNatClampNeg = b.toInt64 := (by rw [nI_clamp (by decide), e1, ← e2])
  exact r_if_eq (tgt := 636) dL_law_631 (by decide) (fun _ => fin) (fun c => absurd (by rw [e3]; exact lg_same _) c)
set_option maxRecDepth 100000 in
set_option maxHeartbeats 4000000 in
theorem k_round {G : gG} {V : wV} {nm : String} {eh : List (Nat × Nat × Nat × Nat)} (hL : gsL G ≤ 1536) (ho : hallAt V 0) (hm : modAt V 47) (hq : shAt V 63 (11, 1, [])) (hq1 : ∀ k, (V.1 k).1 = 11 → k = 63) (hfl : (gl G).stackTraces = false) {i B cells slots : Nat} {s : sgT} {lo : Nat → Int64} {h : hT} (hi : i + 3 ≤ gsL G) (hh : hallIs s 0 h) (hr : modIs s 47 h) (hok : hallOk B h) (hB : B ≤ 19000) (hc : cells + 10 ≤ 651549) (hs : slots + 60 ≤ 7141458) (kk : ∀ (s' : sgT) (lo' : Nat → Int64) (h' : hT), hallIs s' 0 h' → modIs s' 47 h' → hallOk (B + 12) h' → RW G (mLw nm eh) code room_1 (QL G) 1384 (LwL G V i) [] (wS G V s' lo') (cells + 10) (slots + 60)) : RW G (mLw nm eh) code room_1 (QL G) 639 (LwL G V i) [] (wS G V s lo) cells slots := by
  refine rAload_n dL_law_639 rfl ?_
  refine rAload_n dL_law_640 rfl ?_
  refine rCall (mc := (rmD 12 10 60).cells) (ms := (rmD 12 10 60).slots) (rest := []) (rRunSW (M' := mL_round) (As := [.ref (ad V 0), .ref (ad V 63)]) dL_law_641 (by decide) mk_L_round ms_L_round lw_L_116 ⟨(Nat.le_of_ble_eq_true rfl), (Nat.le_of_ble_eq_true rfl)⟩ rfl (Nat.le_of_ble_eq_true rfl) hc hs (c_L_round ho hq hq1 hh hok hB hfl)) (fun v w hv => ?_)
  obtain ⟨v, s1, lo1, rfl, rfl, rfl, p1, p2, p3⟩ := hv
  have hr1 := mod_far hr p2
  show RW G _ _ _ _ 644 _ [.int (nI (fRound h).1)] _ _ _
  refine rIstore dL_law_644 (Nat.le_of_ble_eq_true rfl) ?_
  refine rAload_n dL_law_646 rfl ?_
  refine sCallVi (M' := mX7_round) (rm' := rmD 9 0 0) (As := []) (rest := []) dL_law_647 rfl mk_X7_round mi_X7_round ll_L_119 ⟨(Nat.le_of_ble_eq_true rfl), (Nat.le_of_ble_eq_true rfl)⟩ hm.1 (by decide) rfl rfl hc hs (c_X7_round hm hr1 hok hB) rfl (Nat.le_of_ble_eq_true rfl) (fun b s2 hb => ?_)
  obtain ⟨q0, q1, q2, q3⟩ := hb
  refine rIstore dL_law_650 (Nat.le_of_ble_eq_true rfl) ?_
  refine rAload_n dL_law_652 rfl ?_
  refine sCallVp (M' := mX7_thrown) (rm' := rmD 1 0 0) (As := []) (rest := []) dL_law_653 rfl mk_X7_thrown mi_X7_thrown ll_L_91 ⟨(Nat.le_of_ble_eq_true rfl), (Nat.le_of_ble_eq_true rfl)⟩ hm.1 (by decide) rfl rfl hc hs (c_X7_thrown hm) rfl (Nat.le_of_ble_eq_true rfl) (fun k hk => ?_)
  have hk2 : k = nI (fRound h).1 := hk.trans q0
  subst hk2
  refine rIload dL_law_656 rfl ?_
  refine r_icmp_eq (tgt := 663) dL_law_658 (by decide) (fun _ => ?_) (fun c => absurd rfl c)
  refine rIload dL_law_663 rfl ?_
  have fin : RW G (mLw nm eh) code room_1 (QL G) 680 [some (.ref (gsb G)), some (.ref (ad V 0)), some (.ref (ad V 47)), some (.ref (ad V 63)), some (.int (nI i)), some (.int (nI (fRound h).1)), some (.int (b))] [] (wS G V s2 lo1) (cells + 10) (slots + 60) := by
    refine rGoto (tgt := 1384) dL_law_680 (by decide) ?_
    refine rForget (L := [some (.ref (gsb G)), some (.ref (ad V 0)), some (.ref (ad V 47)), some (.ref (ad V 63)), some (.int (nI i)), some (.int (nI (fRound h).1)), some (.int (b))]) (L' := LwL G V i) (by exact ⟨rfl, rfl, rfl, rfl, rfl, trivial⟩) ?_
    exact kk s2 lo1 (fRound h).2.2 (hall_far p1 q3) q2 (ok_round hok)
  refine r_if_ne (tgt := 680) dL_law_665 (by decide) (fun c => fin) (fun c => ?_)
  have z := r_small le_round c
  have e1 := p3 z
  have e2 := q1 z
  refine rAload_n dL_law_668 rfl ?_
  refine rIconst (v := nI 0) dL_law_669 (by decide) ?_
  refine sLald dL_law_670 hq (vp_in_nI (by decide) (by decide)) ?_
  refine rIload dL_law_671 rfl ?_
  refine rI2l dL_law_673 ?_
  refine rLcmp dL_law_674 ?_
  have e3 : lo1 (nI 0).toNatClampNeg = b.toInt64 := (by rw [nI_clamp (by decide), e1, ← e2])
  exact r_if_eq (tgt := 680) dL_law_675 (by decide) (fun _ => fin) (fun c => absurd (by rw [e3]; exact lg_same _) c)
set_option maxRecDepth 100000 in
set_option maxHeartbeats 4000000 in
theorem k_rounds {G : gG} {V : wV} {nm : String} {eh : List (Nat × Nat × Nat × Nat)} (hL : gsL G ≤ 1536) (ho : hallAt V 0) (hm : modAt V 47) (hq : shAt V 63 (11, 1, [])) (hq1 : ∀ k, (V.1 k).1 = 11 → k = 63) (hfl : (gl G).stackTraces = false) {i B cells slots : Nat} {s : sgT} {lo : Nat → Int64} {h : hT} (hi : i + 3 ≤ gsL G) (hh : hallIs s 0 h) (hr : modIs s 47 h) (hok : hallOk B h) (hB : B ≤ 19000) (hc : cells + 10 ≤ 651549) (hs : slots + 60 ≤ 7141458) (kk : ∀ (s' : sgT) (lo' : Nat → Int64) (h' : hT), hallIs s' 0 h' → modIs s' 47 h' → hallOk (B + 12) h' → RW G (mLw nm eh) code room_1 (QL G) 1384 (LwL G V i) [] (wS G V s' lo') (cells + 10) (slots + 60)) : RW G (mLw nm eh) code room_1 (QL G) 683 (LwL G V i) [] (wS G V s lo) cells slots := by
  refine rAload_n dL_law_683 rfl ?_
  refine sCallVi (M' := mX6_rounds) (rm' := rmD 9 9 54) (As := []) (rest := []) dL_law_684 rfl mk_X6_rounds mi_X6_rounds ll_L_120 ⟨(Nat.le_of_ble_eq_true rfl), (Nat.le_of_ble_eq_true rfl)⟩ ho.1 (by decide) rfl rfl (Nat.le_trans (Nat.add_le_add_left (by decide) cells) hc) (Nat.le_trans (Nat.add_le_add_left (by decide) slots) hs) (CS.noX (c_X6_rounds ho hh hfl) (fun E hE => by obtain ⟨-, k, -, hk⟩ := hE; exact absurd hk (by simp))) rfl (Nat.le_of_ble_eq_true rfl) (fun v s1 hv => ?_)
  obtain ⟨-, rfl, p1, p2⟩ := hv
  have hr1 := mod_far hr p2
  refine rAload_n dL_law_687 rfl ?_
  refine RW.widen (k := cells + 10) (n := slots + 60) (Nat.add_le_add_left (by decide) cells) (Nat.add_le_add_left (by decide) slots) ?_
  refine sCallVi (M' := mX7_rounds) (rm' := rmD 9 0 0) (As := []) (rest := [.int (nI (hR h))]) dL_law_688 rfl mk_X7_rounds mi_X7_rounds ll_L_123 ⟨(Nat.le_of_ble_eq_true rfl), (Nat.le_of_ble_eq_true rfl)⟩ hm.1 (by decide) rfl rfl hc hs (c_X7_rounds hm hr1) rfl (Nat.le_of_ble_eq_true rfl) (fun v s2 hv => ?_)
  obtain ⟨-, q1, q2, q3⟩ := hv
  have q4 : v = nI (hR h) := q1 rfl
  subst q4
  refine r_icmp_eq (tgt := 1384) dL_law_691 (by decide) (fun c => ?_) (fun c => absurd rfl c)
  exact kk s2 lo h (hall_far p1 q3) q2 (hallOk_le hok (by omega))
set_option maxRecDepth 100000 in
set_option maxHeartbeats 4000000 in
theorem k_fight {G : gG} {V : wV} {nm : String} {eh : List (Nat × Nat × Nat × Nat)} (hL : gsL G ≤ 1536) (ho : hallAt V 0) (hm : modAt V 47) (hq : shAt V 63 (11, 1, [])) (hq1 : ∀ k, (V.1 k).1 = 11 → k = 63) (hfl : (gl G).stackTraces = false) {i B cells slots : Nat} {s : sgT} {lo : Nat → Int64} {h : hT} (hi : i + 3 ≤ gsL G) (hh : hallIs s 0 h) (hr : modIs s 47 h) (hok : hallOk B h) (hB : B ≤ 19000) (hc : cells + 10 ≤ 651549) (hs : slots + 60 ≤ 7141458) (kk : ∀ (s' : sgT) (lo' : Nat → Int64) (h' : hT), hallIs s' 0 h' → modIs s' 47 h' → hallOk (B + 12) h' → RW G (mLw nm eh) code room_1 (QL G) 1384 (LwL G V i) [] (wS G V s' lo') (cells + 10) (slots + 60)) : RW G (mLw nm eh) code room_1 (QL G) 696 (LwL G V i) [] (wS G V s lo) cells slots := by
  refine rAload_n dL_law_696 rfl ?_
  refine rAload_n dL_law_697 rfl ?_
  refine rIload dL_law_698 rfl ?_
  refine rIconst (v := nI 1) dL_law_700 (by decide) ?_
  refine nIadd dL_law_701 ?_
  refine rSld dL_law_702 (vp_in_nI (by omega) (by omega)) ?_
  refine rAload_n dL_law_703 rfl ?_
  refine rIload dL_law_704 rfl ?_
  refine rIconst (v := nI 2) dL_law_706 (by decide) ?_
  refine nIadd dL_law_707 ?_
  refine rSld dL_law_708 (vp_in_nI (by omega) (by omega)) ?_
  refine rAload_n dL_law_709 rfl ?_
  refine rCall (mc := (rmD 12 10 60).cells) (ms := (rmD 12 10 60).slots) (rest := []) (rRunSW (M' := mL_fight) (As := [.ref (ad V 0), .int (gsx G (nI (i + 1)).toNatClampNeg), .int (gsx G (nI (i + 2)).toNatClampNeg), .ref (ad V 63)]) dL_law_710 (by decide) mk_L_fight ms_L_fight lw_L_124 ⟨(Nat.le_of_ble_eq_true rfl), (Nat.le_of_ble_eq_true rfl)⟩ rfl (Nat.le_of_ble_eq_true rfl) hc hs (c_L_fight ho hq hq1 hh hok hB hfl)) (fun v w hv => ?_)
  obtain ⟨v, s1, lo1, rfl, rfl, rfl, p1, p2, p3⟩ := hv
  have hr1 := mod_far hr p2
  show RW G _ _ _ _ 713 _ [.int (nI (fFight h (gsx G (nI (i + 1)).toNatClampNeg) (gsx G (nI (i + 2)).toNatClampNeg)).1)] _ _ _
  refine rIstore dL_law_713 (Nat.le_of_ble_eq_true rfl) ?_
  refine rAload_n dL_law_715 rfl ?_
  refine rAload_n dL_law_716 rfl ?_
  refine rIload dL_law_717 rfl ?_
  refine rIconst (v := nI 1) dL_law_719 (by decide) ?_
  refine nIadd dL_law_720 ?_
  refine rSld dL_law_721 (vp_in_nI (by omega) (by omega)) ?_
  refine rAload_n dL_law_722 rfl ?_
  refine rIload dL_law_723 rfl ?_
  refine rIconst (v := nI 2) dL_law_725 (by decide) ?_
  refine nIadd dL_law_726 ?_
  refine rSld dL_law_727 (vp_in_nI (by omega) (by omega)) ?_
  refine sCallVi (M' := mX7_fight) (rm' := rmD 9 0 0) (As := [.int (gsx G (nI (i + 1)).toNatClampNeg), .int (gsx G (nI (i + 2)).toNatClampNeg)]) (rest := []) dL_law_728 rfl mk_X7_fight mi_X7_fight ll_L_126 ⟨(Nat.le_of_ble_eq_true rfl), (Nat.le_of_ble_eq_true rfl)⟩ hm.1 (by decide) rfl rfl hc hs (c_X7_fight hm hr1 hok hB) rfl (Nat.le_of_ble_eq_true rfl) (fun b s2 hb => ?_)
  obtain ⟨q0, q1, q2, q3⟩ := hb
  refine rIstore dL_law_731 (Nat.le_of_ble_eq_true rfl) ?_
  refine rAload_n dL_law_733 rfl ?_
  refine sCallVp (M' := mX7_thrown) (rm' := rmD 1 0 0) (As := []) (rest := []) dL_law_734 rfl mk_X7_thrown mi_X7_thrown ll_L_91 ⟨(Nat.le_of_ble_eq_true rfl), (Nat.le_of_ble_eq_true rfl)⟩ hm.1 (by decide) rfl rfl hc hs (c_X7_thrown hm) rfl (Nat.le_of_ble_eq_true rfl) (fun k hk => ?_)
  have hk2 : k = nI (fFight h (gsx G (nI (i + 1)).toNatClampNeg) (gsx G (nI (i + 2)).toNatClampNeg)).1 := hk.trans q0
  subst hk2
  refine rIload dL_law_737 rfl ?_
  refine r_icmp_eq (tgt := 744) dL_law_739 (by decide) (fun _ => ?_) (fun c => absurd rfl c)
  refine rIload dL_law_744 rfl ?_
  have fin : RW G (mLw nm eh) code room_1 (QL G) 761 [some (.ref (gsb G)), some (.ref (ad V 0)), some (.ref (ad V 47)), some (.ref (ad V 63)), some (.int (nI i)), some (.int (nI (fFight h (gsx G (nI (i + 1)).toNatClampNeg) (gsx G (nI (i + 2)).toNatClampNeg)).1)), some (.int (b))] [] (wS G V s2 lo1) (cells + 10) (slots + 60) := by
    refine rGoto (tgt := 1384) dL_law_761 (by decide) ?_
    refine rForget (L := [some (.ref (gsb G)), some (.ref (ad V 0)), some (.ref (ad V 47)), some (.ref (ad V 63)), some (.int (nI i)), some (.int (nI (fFight h (gsx G (nI (i + 1)).toNatClampNeg) (gsx G (nI (i + 2)).toNatClampNeg)).1)), some (.int (b))]) (L' := LwL G V i) (by exact ⟨rfl, rfl, rfl, rfl, rfl, trivial⟩) ?_
    exact kk s2 lo1 (fFight h (gsx G (nI (i + 1)).toNatClampNeg) (gsx G (nI (i + 2)).toNatClampNeg)).2.2 (hall_far p1 q3) q2 (ok_same hok sm_fight)
  refine r_if_ne (tgt := 761) dL_law_746 (by decide) (fun c => fin) (fun c => ?_)
  have z := r_small le_fight c
  have e1 := p3 z
  have e2 := q1 z
  refine rAload_n dL_law_749 rfl ?_
  refine rIconst (v := nI 0) dL_law_750 (by decide) ?_
  refine sLald dL_law_751 hq (vp_in_nI (by decide) (by decide)) ?_
  refine rIload dL_law_752 rfl ?_
  refine rI2l dL_law_754 ?_
  refine rLcmp dL_law_755 ?_
  have e3 : lo1 (nI 0).toNatClampNeg = b.toInt64 := (by rw [nI_clamp (by decide), e1, ← e2])
  exact r_if_eq (tgt := 761) dL_law_756 (by decide) (fun _ => fin) (fun c => absurd (by rw [e3]; exact lg_same _) c)
set_option maxRecDepth 100000 in
set_option maxHeartbeats 4000000 in
theorem k_fightByRecord {G : gG} {V : wV} {nm : String} {eh : List (Nat × Nat × Nat × Nat)} (hL : gsL G ≤ 1536) (ho : hallAt V 0) (hm : modAt V 47) (hq : shAt V 63 (11, 1, [])) (hq1 : ∀ k, (V.1 k).1 = 11 → k = 63) (hfl : (gl G).stackTraces = false) {i B cells slots : Nat} {s : sgT} {lo : Nat → Int64} {h : hT} (hi : i + 3 ≤ gsL G) (hh : hallIs s 0 h) (hr : modIs s 47 h) (hok : hallOk B h) (hB : B ≤ 19000) (hc : cells + 10 ≤ 651549) (hs : slots + 60 ≤ 7141458) (kk : ∀ (s' : sgT) (lo' : Nat → Int64) (h' : hT), hallIs s' 0 h' → modIs s' 47 h' → hallOk (B + 12) h' → RW G (mLw nm eh) code room_1 (QL G) 1384 (LwL G V i) [] (wS G V s' lo') (cells + 10) (slots + 60)) : RW G (mLw nm eh) code room_1 (QL G) 764 (LwL G V i) [] (wS G V s lo) cells slots := by
  refine rAload_n dL_law_764 rfl ?_
  refine rAload_n dL_law_765 rfl ?_
  refine rIload dL_law_766 rfl ?_
  refine rIconst (v := nI 1) dL_law_768 (by decide) ?_
  refine nIadd dL_law_769 ?_
  refine rSld dL_law_770 (vp_in_nI (by omega) (by omega)) ?_
  refine rAload_n dL_law_771 rfl ?_
  refine rIload dL_law_772 rfl ?_
  refine rIconst (v := nI 2) dL_law_774 (by decide) ?_
  refine nIadd dL_law_775 ?_
  refine rSld dL_law_776 (vp_in_nI (by omega) (by omega)) ?_
  refine rAload_n dL_law_777 rfl ?_
  refine rCall (mc := (rmD 12 10 60).cells) (ms := (rmD 12 10 60).slots) (rest := []) (rRunSW (M' := mL_fightByRecord) (As := [.ref (ad V 0), .int (gsx G (nI (i + 1)).toNatClampNeg), .int (gsx G (nI (i + 2)).toNatClampNeg), .ref (ad V 63)]) dL_law_778 (by decide) mk_L_fightByRecord ms_L_fightByRecord lw_L_127 ⟨(Nat.le_of_ble_eq_true rfl), (Nat.le_of_ble_eq_true rfl)⟩ rfl (Nat.le_of_ble_eq_true rfl) hc hs (c_L_fightByRecord ho hq hq1 hh hok hB hfl)) (fun v w hv => ?_)
  obtain ⟨v, s1, lo1, rfl, rfl, rfl, p1, p2, p3⟩ := hv
  have hr1 := mod_far hr p2
  show RW G _ _ _ _ 781 _ [.int (nI (fFight h (gsx G (nI (i + 1)).toNatClampNeg) (gsx G (nI (i + 2)).toNatClampNeg)).1)] _ _ _
  refine rIstore dL_law_781 (Nat.le_of_ble_eq_true rfl) ?_
  refine rAload_n dL_law_783 rfl ?_
  refine rAload_n dL_law_784 rfl ?_
  refine rIload dL_law_785 rfl ?_
  refine rIconst (v := nI 1) dL_law_787 (by decide) ?_
  refine nIadd dL_law_788 ?_
  refine rSld dL_law_789 (vp_in_nI (by omega) (by omega)) ?_
  refine rAload_n dL_law_790 rfl ?_
  refine rIload dL_law_791 rfl ?_
  refine rIconst (v := nI 2) dL_law_793 (by decide) ?_
  refine nIadd dL_law_794 ?_
  refine rSld dL_law_795 (vp_in_nI (by omega) (by omega)) ?_
  refine sCallVi (M' := mX7_fightByRecord) (rm' := rmD 9 0 0) (As := [.int (gsx G (nI (i + 1)).toNatClampNeg), .int (gsx G (nI (i + 2)).toNatClampNeg)]) (rest := []) dL_law_796 rfl mk_X7_fightByRecord mi_X7_fightByRecord ll_L_129 ⟨(Nat.le_of_ble_eq_true rfl), (Nat.le_of_ble_eq_true rfl)⟩ hm.1 (by decide) rfl rfl hc hs (c_X7_fightByRecord hm hr1 hok hB) rfl (Nat.le_of_ble_eq_true rfl) (fun b s2 hb => ?_)
  obtain ⟨q0, q1, q2, q3⟩ := hb
  refine rIstore dL_law_799 (Nat.le_of_ble_eq_true rfl) ?_
  refine rAload_n dL_law_801 rfl ?_
  refine sCallVp (M' := mX7_thrown) (rm' := rmD 1 0 0) (As := []) (rest := []) dL_law_802 rfl mk_X7_thrown mi_X7_thrown ll_L_91 ⟨(Nat.le_of_ble_eq_true rfl), (Nat.le_of_ble_eq_true rfl)⟩ hm.1 (by decide) rfl rfl hc hs (c_X7_thrown hm) rfl (Nat.le_of_ble_eq_true rfl) (fun k hk => ?_)
  have hk2 : k = nI (fFight h (gsx G (nI (i + 1)).toNatClampNeg) (gsx G (nI (i + 2)).toNatClampNeg)).1 := hk.trans q0
  subst hk2
  refine rIload dL_law_805 rfl ?_
  refine r_icmp_eq (tgt := 812) dL_law_807 (by decide) (fun _ => ?_) (fun c => absurd rfl c)
  refine rIload dL_law_812 rfl ?_
  have fin : RW G (mLw nm eh) code room_1 (QL G) 829 [some (.ref (gsb G)), some (.ref (ad V 0)), some (.ref (ad V 47)), some (.ref (ad V 63)), some (.int (nI i)), some (.int (nI (fFight h (gsx G (nI (i + 1)).toNatClampNeg) (gsx G (nI (i + 2)).toNatClampNeg)).1)), some (.int (b))] [] (wS G V s2 lo1) (cells + 10) (slots + 60) := by
    refine rGoto (tgt := 1384) dL_law_829 (by decide) ?_
    refine rForget (L := [some (.ref (gsb G)), some (.ref (ad V 0)), some (.ref (ad V 47)), some (.ref (ad V 63)), some (.int (nI i)), some (.int (nI (fFight h (gsx G (nI (i + 1)).toNatClampNeg) (gsx G (nI (i + 2)).toNatClampNeg)).1)), some (.int (b))]) (L' := LwL G V i) (by exact ⟨rfl, rfl, rfl, rfl, rfl, trivial⟩) ?_
    exact kk s2 lo1 (fFight h (gsx G (nI (i + 1)).toNatClampNeg) (gsx G (nI (i + 2)).toNatClampNeg)).2.2 (hall_far p1 q3) q2 (ok_same hok sm_fight)
  refine r_if_ne (tgt := 829) dL_law_814 (by decide) (fun c => fin) (fun c => ?_)
  have z := r_small le_fight c
  have e1 := p3 z
  have e2 := q1 z
  refine rAload_n dL_law_817 rfl ?_
  refine rIconst (v := nI 0) dL_law_818 (by decide) ?_
  refine sLald dL_law_819 hq (vp_in_nI (by decide) (by decide)) ?_
  refine rIload dL_law_820 rfl ?_
  refine rI2l dL_law_822 ?_
  refine rLcmp dL_law_823 ?_
  have e3 : lo1 (nI 0).toNatClampNeg = b.toInt64 := (by rw [nI_clamp (by decide), e1, ← e2])
  exact r_if_eq (tgt := 829) dL_law_824 (by decide) (fun _ => fin) (fun c => absurd (by rw [e3]; exact lg_same _) c)
set_option maxRecDepth 100000 in
set_option maxHeartbeats 4000000 in
theorem k_gold {G : gG} {V : wV} {nm : String} {eh : List (Nat × Nat × Nat × Nat)} (hL : gsL G ≤ 1536) (ho : hallAt V 0) (hm : modAt V 47) (hq : shAt V 63 (11, 1, [])) (hq1 : ∀ k, (V.1 k).1 = 11 → k = 63) (hfl : (gl G).stackTraces = false) {i B cells slots : Nat} {s : sgT} {lo : Nat → Int64} {h : hT} (hi : i + 3 ≤ gsL G) (hh : hallIs s 0 h) (hr : modIs s 47 h) (hok : hallOk B h) (hB : B ≤ 19000) (hc : cells + 10 ≤ 651549) (hs : slots + 60 ≤ 7141458) (kk : ∀ (s' : sgT) (lo' : Nat → Int64) (h' : hT), hallIs s' 0 h' → modIs s' 47 h' → hallOk (B + 12) h' → RW G (mLw nm eh) code room_1 (QL G) 1384 (LwL G V i) [] (wS G V s' lo') (cells + 10) (slots + 60)) : RW G (mLw nm eh) code room_1 (QL G) 832 (LwL G V i) [] (wS G V s lo) cells slots := by
  refine rAload_n dL_law_832 rfl ?_
  refine rAload_n dL_law_833 rfl ?_
  refine rIload dL_law_834 rfl ?_
  refine rIconst (v := nI 1) dL_law_836 (by decide) ?_
  refine nIadd dL_law_837 ?_
  refine rSld dL_law_838 (vp_in_nI (by omega) (by omega)) ?_
  refine rAload_n dL_law_839 rfl ?_
  refine rCall (mc := (rmD 12 10 60).cells) (ms := (rmD 12 10 60).slots) (rest := []) (rRunSW (M' := mL_gold) (As := [.ref (ad V 0), .int (gsx G (nI (i + 1)).toNatClampNeg), .ref (ad V 63)]) dL_law_840 (by decide) mk_L_gold ms_L_gold lw_L_130 ⟨(Nat.le_of_ble_eq_true rfl), (Nat.le_of_ble_eq_true rfl)⟩ rfl (Nat.le_of_ble_eq_true rfl) hc hs (c_L_gold ho hq hq1 hh hok hB hfl)) (fun v w hv => ?_)
  obtain ⟨v, s1, lo1, rfl, rfl, rfl, p1, p2, p3⟩ := hv
  have hr1 := mod_far hr p2
  show RW G _ _ _ _ 843 _ [.int (nI ((fAsk (fun z => nI (pGold z))) h (gsx G (nI (i + 1)).toNatClampNeg)).1)] _ _ _
  refine rIstore dL_law_843 (Nat.le_of_ble_eq_true rfl) ?_
  refine rAload_n dL_law_845 rfl ?_
  refine rAload_n dL_law_846 rfl ?_
  refine rIload dL_law_847 rfl ?_
  refine rIconst (v := nI 1) dL_law_849 (by decide) ?_
  refine nIadd dL_law_850 ?_
  refine rSld dL_law_851 (vp_in_nI (by omega) (by omega)) ?_
  refine sCallVi (M' := mX7_gold) (rm' := rmD 9 0 0) (As := [.int (gsx G (nI (i + 1)).toNatClampNeg)]) (rest := []) dL_law_852 rfl mk_X7_gold mi_X7_gold ll_L_132 ⟨(Nat.le_of_ble_eq_true rfl), (Nat.le_of_ble_eq_true rfl)⟩ hm.1 (by decide) rfl rfl hc hs (c_X7_gold hm hr1 hok hB) rfl (Nat.le_of_ble_eq_true rfl) (fun b s2 hb => ?_)
  obtain ⟨q0, q1, q2, q3⟩ := hb
  refine rIstore dL_law_855 (Nat.le_of_ble_eq_true rfl) ?_
  refine rAload_n dL_law_857 rfl ?_
  refine sCallVp (M' := mX7_thrown) (rm' := rmD 1 0 0) (As := []) (rest := []) dL_law_858 rfl mk_X7_thrown mi_X7_thrown ll_L_91 ⟨(Nat.le_of_ble_eq_true rfl), (Nat.le_of_ble_eq_true rfl)⟩ hm.1 (by decide) rfl rfl hc hs (c_X7_thrown hm) rfl (Nat.le_of_ble_eq_true rfl) (fun k hk => ?_)
  have hk2 : k = nI ((fAsk (fun z => nI (pGold z))) h (gsx G (nI (i + 1)).toNatClampNeg)).1 := hk.trans q0
  subst hk2
  refine rIload dL_law_861 rfl ?_
  refine r_icmp_eq (tgt := 868) dL_law_863 (by decide) (fun _ => ?_) (fun c => absurd rfl c)
  refine rIload dL_law_868 rfl ?_
  have fin : RW G (mLw nm eh) code room_1 (QL G) 885 [some (.ref (gsb G)), some (.ref (ad V 0)), some (.ref (ad V 47)), some (.ref (ad V 63)), some (.int (nI i)), some (.int (nI ((fAsk (fun z => nI (pGold z))) h (gsx G (nI (i + 1)).toNatClampNeg)).1)), some (.int (b))] [] (wS G V s2 lo1) (cells + 10) (slots + 60) := by
    refine rGoto (tgt := 1384) dL_law_885 (by decide) ?_
    refine rForget (L := [some (.ref (gsb G)), some (.ref (ad V 0)), some (.ref (ad V 47)), some (.ref (ad V 63)), some (.int (nI i)), some (.int (nI ((fAsk (fun z => nI (pGold z))) h (gsx G (nI (i + 1)).toNatClampNeg)).1)), some (.int (b))]) (L' := LwL G V i) (by exact ⟨rfl, rfl, rfl, rfl, rfl, trivial⟩) ?_
    exact kk s2 lo1 ((fAsk (fun z => nI (pGold z))) h (gsx G (nI (i + 1)).toNatClampNeg)).2.2 (hall_far p1 q3) q2 (ok_same hok sm_ask)
  refine r_if_ne (tgt := 885) dL_law_870 (by decide) (fun c => fin) (fun c => ?_)
  have z := r_small le_ask c
  have e1 := p3 z
  have e2 := q1 z
  refine rAload_n dL_law_873 rfl ?_
  refine rIconst (v := nI 0) dL_law_874 (by decide) ?_
  refine sLald dL_law_875 hq (vp_in_nI (by decide) (by decide)) ?_
  refine rIload dL_law_876 rfl ?_
  refine rI2l dL_law_878 ?_
  refine rLcmp dL_law_879 ?_
  have e3 : lo1 (nI 0).toNatClampNeg = b.toInt64 := (by rw [nI_clamp (by decide), e1, ← e2])
  exact r_if_eq (tgt := 885) dL_law_880 (by decide) (fun _ => fin) (fun c => absurd (by rw [e3]; exact lg_same _) c)
set_option maxRecDepth 100000 in
set_option maxHeartbeats 4000000 in
theorem k_health {G : gG} {V : wV} {nm : String} {eh : List (Nat × Nat × Nat × Nat)} (hL : gsL G ≤ 1536) (ho : hallAt V 0) (hm : modAt V 47) (hq : shAt V 63 (11, 1, [])) (hq1 : ∀ k, (V.1 k).1 = 11 → k = 63) (hfl : (gl G).stackTraces = false) {i B cells slots : Nat} {s : sgT} {lo : Nat → Int64} {h : hT} (hi : i + 3 ≤ gsL G) (hh : hallIs s 0 h) (hr : modIs s 47 h) (hok : hallOk B h) (hB : B ≤ 19000) (hc : cells + 10 ≤ 651549) (hs : slots + 60 ≤ 7141458) (kk : ∀ (s' : sgT) (lo' : Nat → Int64) (h' : hT), hallIs s' 0 h' → modIs s' 47 h' → hallOk (B + 12) h' → RW G (mLw nm eh) code room_1 (QL G) 1384 (LwL G V i) [] (wS G V s' lo') (cells + 10) (slots + 60)) : RW G (mLw nm eh) code room_1 (QL G) 888 (LwL G V i) [] (wS G V s lo) cells slots := by
  refine rAload_n dL_law_888 rfl ?_
  refine rAload_n dL_law_889 rfl ?_
  refine rIload dL_law_890 rfl ?_
  refine rIconst (v := nI 1) dL_law_892 (by decide) ?_
  refine nIadd dL_law_893 ?_
  refine rSld dL_law_894 (vp_in_nI (by omega) (by omega)) ?_
  refine rAload_n dL_law_895 rfl ?_
  refine rCall (mc := (rmD 12 10 60).cells) (ms := (rmD 12 10 60).slots) (rest := []) (rRunSW (M' := mL_health) (As := [.ref (ad V 0), .int (gsx G (nI (i + 1)).toNatClampNeg), .ref (ad V 63)]) dL_law_896 (by decide) mk_L_health ms_L_health lw_L_133 ⟨(Nat.le_of_ble_eq_true rfl), (Nat.le_of_ble_eq_true rfl)⟩ rfl (Nat.le_of_ble_eq_true rfl) hc hs (c_L_health ho hq hq1 hh hok hB hfl)) (fun v w hv => ?_)
  obtain ⟨v, s1, lo1, rfl, rfl, rfl, p1, p2, p3⟩ := hv
  have hr1 := mod_far hr p2
  show RW G _ _ _ _ 899 _ [.int (nI ((fAsk (fun z => nI (pHth z))) h (gsx G (nI (i + 1)).toNatClampNeg)).1)] _ _ _
  refine rIstore dL_law_899 (Nat.le_of_ble_eq_true rfl) ?_
  refine rAload_n dL_law_901 rfl ?_
  refine rAload_n dL_law_902 rfl ?_
  refine rIload dL_law_903 rfl ?_
  refine rIconst (v := nI 1) dL_law_905 (by decide) ?_
  refine nIadd dL_law_906 ?_
  refine rSld dL_law_907 (vp_in_nI (by omega) (by omega)) ?_
  refine sCallVi (M' := mX7_health) (rm' := rmD 9 0 0) (As := [.int (gsx G (nI (i + 1)).toNatClampNeg)]) (rest := []) dL_law_908 rfl mk_X7_health mi_X7_health ll_L_135 ⟨(Nat.le_of_ble_eq_true rfl), (Nat.le_of_ble_eq_true rfl)⟩ hm.1 (by decide) rfl rfl hc hs (c_X7_health hm hr1 hok hB) rfl (Nat.le_of_ble_eq_true rfl) (fun b s2 hb => ?_)
  obtain ⟨q0, q1, q2, q3⟩ := hb
  refine rIstore dL_law_911 (Nat.le_of_ble_eq_true rfl) ?_
  refine rAload_n dL_law_913 rfl ?_
  refine sCallVp (M' := mX7_thrown) (rm' := rmD 1 0 0) (As := []) (rest := []) dL_law_914 rfl mk_X7_thrown mi_X7_thrown ll_L_91 ⟨(Nat.le_of_ble_eq_true rfl), (Nat.le_of_ble_eq_true rfl)⟩ hm.1 (by decide) rfl rfl hc hs (c_X7_thrown hm) rfl (Nat.le_of_ble_eq_true rfl) (fun k hk => ?_)
  have hk2 : k = nI ((fAsk (fun z => nI (pHth z))) h (gsx G (nI (i + 1)).toNatClampNeg)).1 := hk.trans q0
  subst hk2
  refine rIload dL_law_917 rfl ?_
  refine r_icmp_eq (tgt := 924) dL_law_919 (by decide) (fun _ => ?_) (fun c => absurd rfl c)
  refine rIload dL_law_924 rfl ?_
  have fin : RW G (mLw nm eh) code room_1 (QL G) 941 [some (.ref (gsb G)), some (.ref (ad V 0)), some (.ref (ad V 47)), some (.ref (ad V 63)), some (.int (nI i)), some (.int (nI ((fAsk (fun z => nI (pHth z))) h (gsx G (nI (i + 1)).toNatClampNeg)).1)), some (.int (b))] [] (wS G V s2 lo1) (cells + 10) (slots + 60) := by
    refine rGoto (tgt := 1384) dL_law_941 (by decide) ?_
    refine rForget (L := [some (.ref (gsb G)), some (.ref (ad V 0)), some (.ref (ad V 47)), some (.ref (ad V 63)), some (.int (nI i)), some (.int (nI ((fAsk (fun z => nI (pHth z))) h (gsx G (nI (i + 1)).toNatClampNeg)).1)), some (.int (b))]) (L' := LwL G V i) (by exact ⟨rfl, rfl, rfl, rfl, rfl, trivial⟩) ?_
    exact kk s2 lo1 ((fAsk (fun z => nI (pHth z))) h (gsx G (nI (i + 1)).toNatClampNeg)).2.2 (hall_far p1 q3) q2 (ok_same hok sm_ask)
  refine r_if_ne (tgt := 941) dL_law_926 (by decide) (fun c => fin) (fun c => ?_)
  have z := r_small le_ask c
  have e1 := p3 z
  have e2 := q1 z
  refine rAload_n dL_law_929 rfl ?_
  refine rIconst (v := nI 0) dL_law_930 (by decide) ?_
  refine sLald dL_law_931 hq (vp_in_nI (by decide) (by decide)) ?_
  refine rIload dL_law_932 rfl ?_
  refine rI2l dL_law_934 ?_
  refine rLcmp dL_law_935 ?_
  have e3 : lo1 (nI 0).toNatClampNeg = b.toInt64 := (by rw [nI_clamp (by decide), e1, ← e2])
  exact r_if_eq (tgt := 941) dL_law_936 (by decide) (fun _ => fin) (fun c => absurd (by rw [e3]; exact lg_same _) c)
set_option maxRecDepth 100000 in
set_option maxHeartbeats 4000000 in
theorem k_streak {G : gG} {V : wV} {nm : String} {eh : List (Nat × Nat × Nat × Nat)} (hL : gsL G ≤ 1536) (ho : hallAt V 0) (hm : modAt V 47) (hq : shAt V 63 (11, 1, [])) (hq1 : ∀ k, (V.1 k).1 = 11 → k = 63) (hfl : (gl G).stackTraces = false) {i B cells slots : Nat} {s : sgT} {lo : Nat → Int64} {h : hT} (hi : i + 3 ≤ gsL G) (hh : hallIs s 0 h) (hr : modIs s 47 h) (hok : hallOk B h) (hB : B ≤ 19000) (hc : cells + 10 ≤ 651549) (hs : slots + 60 ≤ 7141458) (kk : ∀ (s' : sgT) (lo' : Nat → Int64) (h' : hT), hallIs s' 0 h' → modIs s' 47 h' → hallOk (B + 12) h' → RW G (mLw nm eh) code room_1 (QL G) 1384 (LwL G V i) [] (wS G V s' lo') (cells + 10) (slots + 60)) : RW G (mLw nm eh) code room_1 (QL G) 944 (LwL G V i) [] (wS G V s lo) cells slots := by
  refine rAload_n dL_law_944 rfl ?_
  refine rAload_n dL_law_945 rfl ?_
  refine rIload dL_law_946 rfl ?_
  refine rIconst (v := nI 1) dL_law_948 (by decide) ?_
  refine nIadd dL_law_949 ?_
  refine rSld dL_law_950 (vp_in_nI (by omega) (by omega)) ?_
  refine rAload_n dL_law_951 rfl ?_
  refine rCall (mc := (rmD 12 10 60).cells) (ms := (rmD 12 10 60).slots) (rest := []) (rRunSW (M' := mL_streak) (As := [.ref (ad V 0), .int (gsx G (nI (i + 1)).toNatClampNeg), .ref (ad V 63)]) dL_law_952 (by decide) mk_L_streak ms_L_streak lw_L_136 ⟨(Nat.le_of_ble_eq_true rfl), (Nat.le_of_ble_eq_true rfl)⟩ rfl (Nat.le_of_ble_eq_true rfl) hc hs (c_L_streak ho hq hq1 hh hok hB hfl)) (fun v w hv => ?_)
  obtain ⟨v, s1, lo1, rfl, rfl, rfl, p1, p2, p3⟩ := hv
  have hr1 := mod_far hr p2
  show RW G _ _ _ _ 955 _ [.int (nI ((fAsk (fun z => pStk z)) h (gsx G (nI (i + 1)).toNatClampNeg)).1)] _ _ _
  refine rIstore dL_law_955 (Nat.le_of_ble_eq_true rfl) ?_
  refine rAload_n dL_law_957 rfl ?_
  refine rAload_n dL_law_958 rfl ?_
  refine rIload dL_law_959 rfl ?_
  refine rIconst (v := nI 1) dL_law_961 (by decide) ?_
  refine nIadd dL_law_962 ?_
  refine rSld dL_law_963 (vp_in_nI (by omega) (by omega)) ?_
  refine sCallVi (M' := mX7_streak) (rm' := rmD 9 0 0) (As := [.int (gsx G (nI (i + 1)).toNatClampNeg)]) (rest := []) dL_law_964 rfl mk_X7_streak mi_X7_streak ll_L_138 ⟨(Nat.le_of_ble_eq_true rfl), (Nat.le_of_ble_eq_true rfl)⟩ hm.1 (by decide) rfl rfl hc hs (c_X7_streak hm hr1 hok hB) rfl (Nat.le_of_ble_eq_true rfl) (fun b s2 hb => ?_)
  obtain ⟨q0, q1, q2, q3⟩ := hb
  refine rIstore dL_law_967 (Nat.le_of_ble_eq_true rfl) ?_
  refine rAload_n dL_law_969 rfl ?_
  refine sCallVp (M' := mX7_thrown) (rm' := rmD 1 0 0) (As := []) (rest := []) dL_law_970 rfl mk_X7_thrown mi_X7_thrown ll_L_91 ⟨(Nat.le_of_ble_eq_true rfl), (Nat.le_of_ble_eq_true rfl)⟩ hm.1 (by decide) rfl rfl hc hs (c_X7_thrown hm) rfl (Nat.le_of_ble_eq_true rfl) (fun k hk => ?_)
  have hk2 : k = nI ((fAsk (fun z => pStk z)) h (gsx G (nI (i + 1)).toNatClampNeg)).1 := hk.trans q0
  subst hk2
  refine rIload dL_law_973 rfl ?_
  refine r_icmp_eq (tgt := 980) dL_law_975 (by decide) (fun _ => ?_) (fun c => absurd rfl c)
  refine rIload dL_law_980 rfl ?_
  have fin : RW G (mLw nm eh) code room_1 (QL G) 997 [some (.ref (gsb G)), some (.ref (ad V 0)), some (.ref (ad V 47)), some (.ref (ad V 63)), some (.int (nI i)), some (.int (nI ((fAsk (fun z => pStk z)) h (gsx G (nI (i + 1)).toNatClampNeg)).1)), some (.int (b))] [] (wS G V s2 lo1) (cells + 10) (slots + 60) := by
    refine rGoto (tgt := 1384) dL_law_997 (by decide) ?_
    refine rForget (L := [some (.ref (gsb G)), some (.ref (ad V 0)), some (.ref (ad V 47)), some (.ref (ad V 63)), some (.int (nI i)), some (.int (nI ((fAsk (fun z => pStk z)) h (gsx G (nI (i + 1)).toNatClampNeg)).1)), some (.int (b))]) (L' := LwL G V i) (by exact ⟨rfl, rfl, rfl, rfl, rfl, trivial⟩) ?_
    exact kk s2 lo1 ((fAsk (fun z => pStk z)) h (gsx G (nI (i + 1)).toNatClampNeg)).2.2 (hall_far p1 q3) q2 (ok_same hok sm_ask)
  refine r_if_ne (tgt := 997) dL_law_982 (by decide) (fun c => fin) (fun c => ?_)
  have z := r_small le_ask c
  have e1 := p3 z
  have e2 := q1 z
  refine rAload_n dL_law_985 rfl ?_
  refine rIconst (v := nI 0) dL_law_986 (by decide) ?_
  refine sLald dL_law_987 hq (vp_in_nI (by decide) (by decide)) ?_
  refine rIload dL_law_988 rfl ?_
  refine rI2l dL_law_990 ?_
  refine rLcmp dL_law_991 ?_
  have e3 : lo1 (nI 0).toNatClampNeg = b.toInt64 := (by rw [nI_clamp (by decide), e1, ← e2])
  exact r_if_eq (tgt := 997) dL_law_992 (by decide) (fun _ => fin) (fun c => absurd (by rw [e3]; exact lg_same _) c)
set_option maxRecDepth 100000 in
set_option maxHeartbeats 4000000 in
theorem k_shopAt {G : gG} {V : wV} {nm : String} {eh : List (Nat × Nat × Nat × Nat)} (hL : gsL G ≤ 1536) (ho : hallAt V 0) (hm : modAt V 47) (hq : shAt V 63 (11, 1, [])) (hq1 : ∀ k, (V.1 k).1 = 11 → k = 63) (hfl : (gl G).stackTraces = false) {i B cells slots : Nat} {s : sgT} {lo : Nat → Int64} {h : hT} (hi : i + 3 ≤ gsL G) (hh : hallIs s 0 h) (hr : modIs s 47 h) (hok : hallOk B h) (hB : B ≤ 19000) (hc : cells + 10 ≤ 651549) (hs : slots + 60 ≤ 7141458) (kk : ∀ (s' : sgT) (lo' : Nat → Int64) (h' : hT), hallIs s' 0 h' → modIs s' 47 h' → hallOk (B + 12) h' → RW G (mLw nm eh) code room_1 (QL G) 1384 (LwL G V i) [] (wS G V s' lo') (cells + 10) (slots + 60)) : RW G (mLw nm eh) code room_1 (QL G) 1000 (LwL G V i) [] (wS G V s lo) cells slots := by
  refine rAload_n dL_law_1000 rfl ?_
  refine rAload_n dL_law_1001 rfl ?_
  refine rIload dL_law_1002 rfl ?_
  refine rIconst (v := nI 1) dL_law_1004 (by decide) ?_
  refine nIadd dL_law_1005 ?_
  refine rSld dL_law_1006 (vp_in_nI (by omega) (by omega)) ?_
  refine rAload_n dL_law_1007 rfl ?_
  refine rIload dL_law_1008 rfl ?_
  refine rIconst (v := nI 2) dL_law_1010 (by decide) ?_
  refine nIadd dL_law_1011 ?_
  refine rSld dL_law_1012 (vp_in_nI (by omega) (by omega)) ?_
  refine rAload_n dL_law_1013 rfl ?_
  refine rCall (mc := (rmD 12 10 60).cells) (ms := (rmD 12 10 60).slots) (rest := []) (rRunSW (M' := mL_shopAt) (As := [.ref (ad V 0), .int (gsx G (nI (i + 1)).toNatClampNeg), .int (gsx G (nI (i + 2)).toNatClampNeg), .ref (ad V 63)]) dL_law_1014 (by decide) mk_L_shopAt ms_L_shopAt lw_L_139 ⟨(Nat.le_of_ble_eq_true rfl), (Nat.le_of_ble_eq_true rfl)⟩ rfl (Nat.le_of_ble_eq_true rfl) hc hs (c_L_shopAt ho hq hq1 hh hok hB hfl)) (fun v w hv => ?_)
  obtain ⟨v, s1, lo1, rfl, rfl, rfl, p1, p2, p3⟩ := hv
  have hr1 := mod_far hr p2
  show RW G _ _ _ _ 1017 _ [.int (nI (fShop h (gsx G (nI (i + 1)).toNatClampNeg) (gsx G (nI (i + 2)).toNatClampNeg)).1)] _ _ _
  refine rIstore dL_law_1017 (Nat.le_of_ble_eq_true rfl) ?_
  refine rAload_n dL_law_1019 rfl ?_
  refine rAload_n dL_law_1020 rfl ?_
  refine rIload dL_law_1021 rfl ?_
  refine rIconst (v := nI 1) dL_law_1023 (by decide) ?_
  refine nIadd dL_law_1024 ?_
  refine rSld dL_law_1025 (vp_in_nI (by omega) (by omega)) ?_
  refine rAload_n dL_law_1026 rfl ?_
  refine rIload dL_law_1027 rfl ?_
  refine rIconst (v := nI 2) dL_law_1029 (by decide) ?_
  refine nIadd dL_law_1030 ?_
  refine rSld dL_law_1031 (vp_in_nI (by omega) (by omega)) ?_
  refine sCallVi (M' := mX7_shopAt) (rm' := rmD 9 0 0) (As := [.int (gsx G (nI (i + 1)).toNatClampNeg), .int (gsx G (nI (i + 2)).toNatClampNeg)]) (rest := []) dL_law_1032 rfl mk_X7_shopAt mi_X7_shopAt ll_L_141 ⟨(Nat.le_of_ble_eq_true rfl), (Nat.le_of_ble_eq_true rfl)⟩ hm.1 (by decide) rfl rfl hc hs (c_X7_shopAt hm hr1 hok hB) rfl (Nat.le_of_ble_eq_true rfl) (fun b s2 hb => ?_)
  obtain ⟨q0, q1, q2, q3⟩ := hb
  refine rIstore dL_law_1035 (Nat.le_of_ble_eq_true rfl) ?_
  refine rAload_n dL_law_1037 rfl ?_
  refine sCallVp (M' := mX7_thrown) (rm' := rmD 1 0 0) (As := []) (rest := []) dL_law_1038 rfl mk_X7_thrown mi_X7_thrown ll_L_91 ⟨(Nat.le_of_ble_eq_true rfl), (Nat.le_of_ble_eq_true rfl)⟩ hm.1 (by decide) rfl rfl hc hs (c_X7_thrown hm) rfl (Nat.le_of_ble_eq_true rfl) (fun k hk => ?_)
  have hk2 : k = nI (fShop h (gsx G (nI (i + 1)).toNatClampNeg) (gsx G (nI (i + 2)).toNatClampNeg)).1 := hk.trans q0
  subst hk2
  refine rIload dL_law_1041 rfl ?_
  refine r_icmp_eq (tgt := 1048) dL_law_1043 (by decide) (fun _ => ?_) (fun c => absurd rfl c)
  refine rIload dL_law_1048 rfl ?_
  have fin : RW G (mLw nm eh) code room_1 (QL G) 1065 [some (.ref (gsb G)), some (.ref (ad V 0)), some (.ref (ad V 47)), some (.ref (ad V 63)), some (.int (nI i)), some (.int (nI (fShop h (gsx G (nI (i + 1)).toNatClampNeg) (gsx G (nI (i + 2)).toNatClampNeg)).1)), some (.int (b))] [] (wS G V s2 lo1) (cells + 10) (slots + 60) := by
    refine rGoto (tgt := 1384) dL_law_1065 (by decide) ?_
    refine rForget (L := [some (.ref (gsb G)), some (.ref (ad V 0)), some (.ref (ad V 47)), some (.ref (ad V 63)), some (.int (nI i)), some (.int (nI (fShop h (gsx G (nI (i + 1)).toNatClampNeg) (gsx G (nI (i + 2)).toNatClampNeg)).1)), some (.int (b))]) (L' := LwL G V i) (by exact ⟨rfl, rfl, rfl, rfl, rfl, trivial⟩) ?_
    exact kk s2 lo1 (fShop h (gsx G (nI (i + 1)).toNatClampNeg) (gsx G (nI (i + 2)).toNatClampNeg)).2.2 (hall_far p1 q3) q2 (ok_same hok sm_ask2)
  refine r_if_ne (tgt := 1065) dL_law_1050 (by decide) (fun c => fin) (fun c => ?_)
  have z := r_small le_ask2 c
  have e1 := p3 z
  have e2 := q1 z
  refine rAload_n dL_law_1053 rfl ?_
  refine rIconst (v := nI 0) dL_law_1054 (by decide) ?_
  refine sLald dL_law_1055 hq (vp_in_nI (by decide) (by decide)) ?_
  refine rIload dL_law_1056 rfl ?_
  refine rI2l dL_law_1058 ?_
  refine rLcmp dL_law_1059 ?_
  have e3 : lo1 (nI 0).toNatClampNeg = b.toInt64 := (by rw [nI_clamp (by decide), e1, ← e2])
  exact r_if_eq (tgt := 1065) dL_law_1060 (by decide) (fun _ => fin) (fun c => absurd (by rw [e3]; exact lg_same _) c)
set_option maxRecDepth 100000 in
set_option maxHeartbeats 4000000 in
theorem k_benchAt {G : gG} {V : wV} {nm : String} {eh : List (Nat × Nat × Nat × Nat)} (hL : gsL G ≤ 1536) (ho : hallAt V 0) (hm : modAt V 47) (hq : shAt V 63 (11, 1, [])) (hq1 : ∀ k, (V.1 k).1 = 11 → k = 63) (hfl : (gl G).stackTraces = false) {i B cells slots : Nat} {s : sgT} {lo : Nat → Int64} {h : hT} (hi : i + 3 ≤ gsL G) (hh : hallIs s 0 h) (hr : modIs s 47 h) (hok : hallOk B h) (hB : B ≤ 19000) (hc : cells + 10 ≤ 651549) (hs : slots + 60 ≤ 7141458) (kk : ∀ (s' : sgT) (lo' : Nat → Int64) (h' : hT), hallIs s' 0 h' → modIs s' 47 h' → hallOk (B + 12) h' → RW G (mLw nm eh) code room_1 (QL G) 1384 (LwL G V i) [] (wS G V s' lo') (cells + 10) (slots + 60)) : RW G (mLw nm eh) code room_1 (QL G) 1068 (LwL G V i) [] (wS G V s lo) cells slots := by
  refine rAload_n dL_law_1068 rfl ?_
  refine rAload_n dL_law_1069 rfl ?_
  refine rIload dL_law_1070 rfl ?_
  refine rIconst (v := nI 1) dL_law_1072 (by decide) ?_
  refine nIadd dL_law_1073 ?_
  refine rSld dL_law_1074 (vp_in_nI (by omega) (by omega)) ?_
  refine rAload_n dL_law_1075 rfl ?_
  refine rIload dL_law_1076 rfl ?_
  refine rIconst (v := nI 2) dL_law_1078 (by decide) ?_
  refine nIadd dL_law_1079 ?_
  refine rSld dL_law_1080 (vp_in_nI (by omega) (by omega)) ?_
  refine rAload_n dL_law_1081 rfl ?_
  refine rCall (mc := (rmD 12 10 60).cells) (ms := (rmD 12 10 60).slots) (rest := []) (rRunSW (M' := mL_benchAt) (As := [.ref (ad V 0), .int (gsx G (nI (i + 1)).toNatClampNeg), .int (gsx G (nI (i + 2)).toNatClampNeg), .ref (ad V 63)]) dL_law_1082 (by decide) mk_L_benchAt ms_L_benchAt lw_L_142 ⟨(Nat.le_of_ble_eq_true rfl), (Nat.le_of_ble_eq_true rfl)⟩ rfl (Nat.le_of_ble_eq_true rfl) hc hs (c_L_benchAt ho hq hq1 hh hok hB hfl)) (fun v w hv => ?_)
  obtain ⟨v, s1, lo1, rfl, rfl, rfl, p1, p2, p3⟩ := hv
  have hr1 := mod_far hr p2
  show RW G _ _ _ _ 1085 _ [.int (nI (fBenA h (gsx G (nI (i + 1)).toNatClampNeg) (gsx G (nI (i + 2)).toNatClampNeg)).1)] _ _ _
  refine rIstore dL_law_1085 (Nat.le_of_ble_eq_true rfl) ?_
  refine rAload_n dL_law_1087 rfl ?_
  refine rAload_n dL_law_1088 rfl ?_
  refine rIload dL_law_1089 rfl ?_
  refine rIconst (v := nI 1) dL_law_1091 (by decide) ?_
  refine nIadd dL_law_1092 ?_
  refine rSld dL_law_1093 (vp_in_nI (by omega) (by omega)) ?_
  refine rAload_n dL_law_1094 rfl ?_
  refine rIload dL_law_1095 rfl ?_
  refine rIconst (v := nI 2) dL_law_1097 (by decide) ?_
  refine nIadd dL_law_1098 ?_
  refine rSld dL_law_1099 (vp_in_nI (by omega) (by omega)) ?_
  refine sCallVi (M' := mX7_benchAt) (rm' := rmD 9 0 0) (As := [.int (gsx G (nI (i + 1)).toNatClampNeg), .int (gsx G (nI (i + 2)).toNatClampNeg)]) (rest := []) dL_law_1100 rfl mk_X7_benchAt mi_X7_benchAt ll_L_144 ⟨(Nat.le_of_ble_eq_true rfl), (Nat.le_of_ble_eq_true rfl)⟩ hm.1 (by decide) rfl rfl hc hs (c_X7_benchAt hm hr1 hok hB) rfl (Nat.le_of_ble_eq_true rfl) (fun b s2 hb => ?_)
  obtain ⟨q0, q1, q2, q3⟩ := hb
  refine rIstore dL_law_1103 (Nat.le_of_ble_eq_true rfl) ?_
  refine rAload_n dL_law_1105 rfl ?_
  refine sCallVp (M' := mX7_thrown) (rm' := rmD 1 0 0) (As := []) (rest := []) dL_law_1106 rfl mk_X7_thrown mi_X7_thrown ll_L_91 ⟨(Nat.le_of_ble_eq_true rfl), (Nat.le_of_ble_eq_true rfl)⟩ hm.1 (by decide) rfl rfl hc hs (c_X7_thrown hm) rfl (Nat.le_of_ble_eq_true rfl) (fun k hk => ?_)
  have hk2 : k = nI (fBenA h (gsx G (nI (i + 1)).toNatClampNeg) (gsx G (nI (i + 2)).toNatClampNeg)).1 := hk.trans q0
  subst hk2
  refine rIload dL_law_1109 rfl ?_
  refine r_icmp_eq (tgt := 1116) dL_law_1111 (by decide) (fun _ => ?_) (fun c => absurd rfl c)
  refine rIload dL_law_1116 rfl ?_
  have fin : RW G (mLw nm eh) code room_1 (QL G) 1133 [some (.ref (gsb G)), some (.ref (ad V 0)), some (.ref (ad V 47)), some (.ref (ad V 63)), some (.int (nI i)), some (.int (nI (fBenA h (gsx G (nI (i + 1)).toNatClampNeg) (gsx G (nI (i + 2)).toNatClampNeg)).1)), some (.int (b))] [] (wS G V s2 lo1) (cells + 10) (slots + 60) := by
    refine rGoto (tgt := 1384) dL_law_1133 (by decide) ?_
    refine rForget (L := [some (.ref (gsb G)), some (.ref (ad V 0)), some (.ref (ad V 47)), some (.ref (ad V 63)), some (.int (nI i)), some (.int (nI (fBenA h (gsx G (nI (i + 1)).toNatClampNeg) (gsx G (nI (i + 2)).toNatClampNeg)).1)), some (.int (b))]) (L' := LwL G V i) (by exact ⟨rfl, rfl, rfl, rfl, rfl, trivial⟩) ?_
    exact kk s2 lo1 (fBenA h (gsx G (nI (i + 1)).toNatClampNeg) (gsx G (nI (i + 2)).toNatClampNeg)).2.2 (hall_far p1 q3) q2 (ok_same hok sm_ask2)
  refine r_if_ne (tgt := 1133) dL_law_1118 (by decide) (fun c => fin) (fun c => ?_)
  have z := r_small le_ask2 c
  have e1 := p3 z
  have e2 := q1 z
  refine rAload_n dL_law_1121 rfl ?_
  refine rIconst (v := nI 0) dL_law_1122 (by decide) ?_
  refine sLald dL_law_1123 hq (vp_in_nI (by decide) (by decide)) ?_
  refine rIload dL_law_1124 rfl ?_
  refine rI2l dL_law_1126 ?_
  refine rLcmp dL_law_1127 ?_
  have e3 : lo1 (nI 0).toNatClampNeg = b.toInt64 := (by rw [nI_clamp (by decide), e1, ← e2])
  exact r_if_eq (tgt := 1133) dL_law_1128 (by decide) (fun _ => fin) (fun c => absurd (by rw [e3]; exact lg_same _) c)
set_option maxRecDepth 100000 in
set_option maxHeartbeats 4000000 in
theorem k_boardAt {G : gG} {V : wV} {nm : String} {eh : List (Nat × Nat × Nat × Nat)} (hL : gsL G ≤ 1536) (ho : hallAt V 0) (hm : modAt V 47) (hq : shAt V 63 (11, 1, [])) (hq1 : ∀ k, (V.1 k).1 = 11 → k = 63) (hfl : (gl G).stackTraces = false) {i B cells slots : Nat} {s : sgT} {lo : Nat → Int64} {h : hT} (hi : i + 3 ≤ gsL G) (hh : hallIs s 0 h) (hr : modIs s 47 h) (hok : hallOk B h) (hB : B ≤ 19000) (hc : cells + 10 ≤ 651549) (hs : slots + 60 ≤ 7141458) (kk : ∀ (s' : sgT) (lo' : Nat → Int64) (h' : hT), hallIs s' 0 h' → modIs s' 47 h' → hallOk (B + 12) h' → RW G (mLw nm eh) code room_1 (QL G) 1384 (LwL G V i) [] (wS G V s' lo') (cells + 10) (slots + 60)) : RW G (mLw nm eh) code room_1 (QL G) 1136 (LwL G V i) [] (wS G V s lo) cells slots := by
  refine rAload_n dL_law_1136 rfl ?_
  refine rAload_n dL_law_1137 rfl ?_
  refine rIload dL_law_1138 rfl ?_
  refine rIconst (v := nI 1) dL_law_1140 (by decide) ?_
  refine nIadd dL_law_1141 ?_
  refine rSld dL_law_1142 (vp_in_nI (by omega) (by omega)) ?_
  refine rAload_n dL_law_1143 rfl ?_
  refine rIload dL_law_1144 rfl ?_
  refine rIconst (v := nI 2) dL_law_1146 (by decide) ?_
  refine nIadd dL_law_1147 ?_
  refine rSld dL_law_1148 (vp_in_nI (by omega) (by omega)) ?_
  refine rAload_n dL_law_1149 rfl ?_
  refine rCall (mc := (rmD 12 10 60).cells) (ms := (rmD 12 10 60).slots) (rest := []) (rRunSW (M' := mL_boardAt) (As := [.ref (ad V 0), .int (gsx G (nI (i + 1)).toNatClampNeg), .int (gsx G (nI (i + 2)).toNatClampNeg), .ref (ad V 63)]) dL_law_1150 (by decide) mk_L_boardAt ms_L_boardAt lw_L_145 ⟨(Nat.le_of_ble_eq_true rfl), (Nat.le_of_ble_eq_true rfl)⟩ rfl (Nat.le_of_ble_eq_true rfl) hc hs (c_L_boardAt ho hq hq1 hh hok hB hfl)) (fun v w hv => ?_)
  obtain ⟨v, s1, lo1, rfl, rfl, rfl, p1, p2, p3⟩ := hv
  have hr1 := mod_far hr p2
  show RW G _ _ _ _ 1153 _ [.int (nI (fBrdA h (gsx G (nI (i + 1)).toNatClampNeg) (gsx G (nI (i + 2)).toNatClampNeg)).1)] _ _ _
  refine rIstore dL_law_1153 (Nat.le_of_ble_eq_true rfl) ?_
  refine rAload_n dL_law_1155 rfl ?_
  refine rAload_n dL_law_1156 rfl ?_
  refine rIload dL_law_1157 rfl ?_
  refine rIconst (v := nI 1) dL_law_1159 (by decide) ?_
  refine nIadd dL_law_1160 ?_
  refine rSld dL_law_1161 (vp_in_nI (by omega) (by omega)) ?_
  refine rAload_n dL_law_1162 rfl ?_
  refine rIload dL_law_1163 rfl ?_
  refine rIconst (v := nI 2) dL_law_1165 (by decide) ?_
  refine nIadd dL_law_1166 ?_
  refine rSld dL_law_1167 (vp_in_nI (by omega) (by omega)) ?_
  refine sCallVi (M' := mX7_boardAt) (rm' := rmD 9 0 0) (As := [.int (gsx G (nI (i + 1)).toNatClampNeg), .int (gsx G (nI (i + 2)).toNatClampNeg)]) (rest := []) dL_law_1168 rfl mk_X7_boardAt mi_X7_boardAt ll_L_147 ⟨(Nat.le_of_ble_eq_true rfl), (Nat.le_of_ble_eq_true rfl)⟩ hm.1 (by decide) rfl rfl hc hs (c_X7_boardAt hm hr1 hok hB) rfl (Nat.le_of_ble_eq_true rfl) (fun b s2 hb => ?_)
  obtain ⟨q0, q1, q2, q3⟩ := hb
  refine rIstore dL_law_1171 (Nat.le_of_ble_eq_true rfl) ?_
  refine rAload_n dL_law_1173 rfl ?_
  refine sCallVp (M' := mX7_thrown) (rm' := rmD 1 0 0) (As := []) (rest := []) dL_law_1174 rfl mk_X7_thrown mi_X7_thrown ll_L_91 ⟨(Nat.le_of_ble_eq_true rfl), (Nat.le_of_ble_eq_true rfl)⟩ hm.1 (by decide) rfl rfl hc hs (c_X7_thrown hm) rfl (Nat.le_of_ble_eq_true rfl) (fun k hk => ?_)
  have hk2 : k = nI (fBrdA h (gsx G (nI (i + 1)).toNatClampNeg) (gsx G (nI (i + 2)).toNatClampNeg)).1 := hk.trans q0
  subst hk2
  refine rIload dL_law_1177 rfl ?_
  refine r_icmp_eq (tgt := 1184) dL_law_1179 (by decide) (fun _ => ?_) (fun c => absurd rfl c)
  refine rIload dL_law_1184 rfl ?_
  have fin : RW G (mLw nm eh) code room_1 (QL G) 1201 [some (.ref (gsb G)), some (.ref (ad V 0)), some (.ref (ad V 47)), some (.ref (ad V 63)), some (.int (nI i)), some (.int (nI (fBrdA h (gsx G (nI (i + 1)).toNatClampNeg) (gsx G (nI (i + 2)).toNatClampNeg)).1)), some (.int (b))] [] (wS G V s2 lo1) (cells + 10) (slots + 60) := by
    refine rGoto (tgt := 1384) dL_law_1201 (by decide) ?_
    refine rForget (L := [some (.ref (gsb G)), some (.ref (ad V 0)), some (.ref (ad V 47)), some (.ref (ad V 63)), some (.int (nI i)), some (.int (nI (fBrdA h (gsx G (nI (i + 1)).toNatClampNeg) (gsx G (nI (i + 2)).toNatClampNeg)).1)), some (.int (b))]) (L' := LwL G V i) (by exact ⟨rfl, rfl, rfl, rfl, rfl, trivial⟩) ?_
    exact kk s2 lo1 (fBrdA h (gsx G (nI (i + 1)).toNatClampNeg) (gsx G (nI (i + 2)).toNatClampNeg)).2.2 (hall_far p1 q3) q2 (ok_same hok sm_ask2)
  refine r_if_ne (tgt := 1201) dL_law_1186 (by decide) (fun c => fin) (fun c => ?_)
  have z := r_small le_ask2 c
  have e1 := p3 z
  have e2 := q1 z
  refine rAload_n dL_law_1189 rfl ?_
  refine rIconst (v := nI 0) dL_law_1190 (by decide) ?_
  refine sLald dL_law_1191 hq (vp_in_nI (by decide) (by decide)) ?_
  refine rIload dL_law_1192 rfl ?_
  refine rI2l dL_law_1194 ?_
  refine rLcmp dL_law_1195 ?_
  have e3 : lo1 (nI 0).toNatClampNeg = b.toInt64 := (by rw [nI_clamp (by decide), e1, ← e2])
  exact r_if_eq (tgt := 1201) dL_law_1196 (by decide) (fun _ => fin) (fun c => absurd (by rw [e3]; exact lg_same _) c)
set_option maxRecDepth 100000 in
set_option maxHeartbeats 4000000 in
theorem k_blow {G : gG} {V : wV} {nm : String} {eh : List (Nat × Nat × Nat × Nat)} (hL : gsL G ≤ 1536) (ho : hallAt V 0) (hm : modAt V 47) (hq : shAt V 63 (11, 1, [])) (hq1 : ∀ k, (V.1 k).1 = 11 → k = 63) (hfl : (gl G).stackTraces = false) {i B cells slots : Nat} {s : sgT} {lo : Nat → Int64} {h : hT} (hi : i + 3 ≤ gsL G) (hh : hallIs s 0 h) (hr : modIs s 47 h) (hok : hallOk B h) (hB : B ≤ 19000) (hc : cells + 10 ≤ 651549) (hs : slots + 60 ≤ 7141458) (kk : ∀ (s' : sgT) (lo' : Nat → Int64) (h' : hT), hallIs s' 0 h' → modIs s' 47 h' → hallOk (B + 12) h' → RW G (mLw nm eh) code room_1 (QL G) 1384 (LwL G V i) [] (wS G V s' lo') (cells + 10) (slots + 60)) : RW G (mLw nm eh) code room_1 (QL G) 1204 (LwL G V i) [] (wS G V s lo) cells slots := by
  refine rAload_n dL_law_1204 rfl ?_
  refine rAload_n dL_law_1205 rfl ?_
  refine rIload dL_law_1206 rfl ?_
  refine rIconst (v := nI 1) dL_law_1208 (by decide) ?_
  refine nIadd dL_law_1209 ?_
  refine rSld dL_law_1210 (vp_in_nI (by omega) (by omega)) ?_
  refine rAload_n dL_law_1211 rfl ?_
  refine rIload dL_law_1212 rfl ?_
  refine rIconst (v := nI 2) dL_law_1214 (by decide) ?_
  refine nIadd dL_law_1215 ?_
  refine rSld dL_law_1216 (vp_in_nI (by omega) (by omega)) ?_
  refine rAload_n dL_law_1217 rfl ?_
  refine rCall (mc := (rmD 12 10 60).cells) (ms := (rmD 12 10 60).slots) (rest := []) (rRunSW (M' := mL_blow) (As := [.ref (ad V 0), .int (gsx G (nI (i + 1)).toNatClampNeg), .int (gsx G (nI (i + 2)).toNatClampNeg), .ref (ad V 63)]) dL_law_1218 (by decide) mk_L_blow ms_L_blow lw_L_148 ⟨(Nat.le_of_ble_eq_true rfl), (Nat.le_of_ble_eq_true rfl)⟩ rfl (Nat.le_of_ble_eq_true rfl) hc hs (c_L_blow ho hq hq1 hh hok hB hfl)) (fun v w hv => ?_)
  obtain ⟨v, s1, lo1, rfl, rfl, rfl, p1, p2, p3⟩ := hv
  have hr1 := mod_far hr p2
  show RW G _ _ _ _ 1221 _ [.int (nI (fBlow h (gsx G (nI (i + 1)).toNatClampNeg) (gsx G (nI (i + 2)).toNatClampNeg)).1)] _ _ _
  refine rIstore dL_law_1221 (Nat.le_of_ble_eq_true rfl) ?_
  refine rAload_n dL_law_1223 rfl ?_
  refine rAload_n dL_law_1224 rfl ?_
  refine rIload dL_law_1225 rfl ?_
  refine rIconst (v := nI 1) dL_law_1227 (by decide) ?_
  refine nIadd dL_law_1228 ?_
  refine rSld dL_law_1229 (vp_in_nI (by omega) (by omega)) ?_
  refine rAload_n dL_law_1230 rfl ?_
  refine rIload dL_law_1231 rfl ?_
  refine rIconst (v := nI 2) dL_law_1233 (by decide) ?_
  refine nIadd dL_law_1234 ?_
  refine rSld dL_law_1235 (vp_in_nI (by omega) (by omega)) ?_
  refine sCallVi (M' := mX7_blow) (rm' := rmD 9 0 0) (As := [.int (gsx G (nI (i + 1)).toNatClampNeg), .int (gsx G (nI (i + 2)).toNatClampNeg)]) (rest := []) dL_law_1236 rfl mk_X7_blow mi_X7_blow ll_L_150 ⟨(Nat.le_of_ble_eq_true rfl), (Nat.le_of_ble_eq_true rfl)⟩ hm.1 (by decide) rfl rfl hc hs (c_X7_blow hm hr1 hok hB) rfl (Nat.le_of_ble_eq_true rfl) (fun b s2 hb => ?_)
  obtain ⟨q0, q1, q2, q3⟩ := hb
  refine rIstore dL_law_1239 (Nat.le_of_ble_eq_true rfl) ?_
  refine rAload_n dL_law_1241 rfl ?_
  refine sCallVp (M' := mX7_thrown) (rm' := rmD 1 0 0) (As := []) (rest := []) dL_law_1242 rfl mk_X7_thrown mi_X7_thrown ll_L_91 ⟨(Nat.le_of_ble_eq_true rfl), (Nat.le_of_ble_eq_true rfl)⟩ hm.1 (by decide) rfl rfl hc hs (c_X7_thrown hm) rfl (Nat.le_of_ble_eq_true rfl) (fun k hk => ?_)
  have hk2 : k = nI (fBlow h (gsx G (nI (i + 1)).toNatClampNeg) (gsx G (nI (i + 2)).toNatClampNeg)).1 := hk.trans q0
  subst hk2
  refine rIload dL_law_1245 rfl ?_
  refine r_icmp_eq (tgt := 1252) dL_law_1247 (by decide) (fun _ => ?_) (fun c => absurd rfl c)
  refine rIload dL_law_1252 rfl ?_
  have fin : RW G (mLw nm eh) code room_1 (QL G) 1269 [some (.ref (gsb G)), some (.ref (ad V 0)), some (.ref (ad V 47)), some (.ref (ad V 63)), some (.int (nI i)), some (.int (nI (fBlow h (gsx G (nI (i + 1)).toNatClampNeg) (gsx G (nI (i + 2)).toNatClampNeg)).1)), some (.int (b))] [] (wS G V s2 lo1) (cells + 10) (slots + 60) := by
    refine rGoto (tgt := 1384) dL_law_1269 (by decide) ?_
    refine rForget (L := [some (.ref (gsb G)), some (.ref (ad V 0)), some (.ref (ad V 47)), some (.ref (ad V 63)), some (.int (nI i)), some (.int (nI (fBlow h (gsx G (nI (i + 1)).toNatClampNeg) (gsx G (nI (i + 2)).toNatClampNeg)).1)), some (.int (b))]) (L' := LwL G V i) (by exact ⟨rfl, rfl, rfl, rfl, rfl, trivial⟩) ?_
    exact kk s2 lo1 (fBlow h (gsx G (nI (i + 1)).toNatClampNeg) (gsx G (nI (i + 2)).toNatClampNeg)).2.2 (hall_far p1 q3) q2 (ok_same hok sm_ask2)
  refine r_if_ne (tgt := 1269) dL_law_1254 (by decide) (fun c => fin) (fun c => ?_)
  have z := r_small le_ask2 c
  have e1 := p3 z
  have e2 := q1 z
  refine rAload_n dL_law_1257 rfl ?_
  refine rIconst (v := nI 0) dL_law_1258 (by decide) ?_
  refine sLald dL_law_1259 hq (vp_in_nI (by decide) (by decide)) ?_
  refine rIload dL_law_1260 rfl ?_
  refine rI2l dL_law_1262 ?_
  refine rLcmp dL_law_1263 ?_
  have e3 : lo1 (nI 0).toNatClampNeg = b.toInt64 := (by rw [nI_clamp (by decide), e1, ← e2])
  exact r_if_eq (tgt := 1269) dL_law_1264 (by decide) (fun _ => fin) (fun c => absurd (by rw [e3]; exact lg_same _) c)
set_option maxRecDepth 100000 in
set_option maxHeartbeats 4000000 in
theorem k_pool {G : gG} {V : wV} {nm : String} {eh : List (Nat × Nat × Nat × Nat)} (hL : gsL G ≤ 1536) (ho : hallAt V 0) (hm : modAt V 47) (hq : shAt V 63 (11, 1, [])) (hq1 : ∀ k, (V.1 k).1 = 11 → k = 63) (hfl : (gl G).stackTraces = false) {i B cells slots : Nat} {s : sgT} {lo : Nat → Int64} {h : hT} (hi : i + 3 ≤ gsL G) (hh : hallIs s 0 h) (hr : modIs s 47 h) (hok : hallOk B h) (hB : B ≤ 19000) (hc : cells + 10 ≤ 651549) (hs : slots + 60 ≤ 7141458) (kk : ∀ (s' : sgT) (lo' : Nat → Int64) (h' : hT), hallIs s' 0 h' → modIs s' 47 h' → hallOk (B + 12) h' → RW G (mLw nm eh) code room_1 (QL G) 1384 (LwL G V i) [] (wS G V s' lo') (cells + 10) (slots + 60)) : RW G (mLw nm eh) code room_1 (QL G) 1272 (LwL G V i) [] (wS G V s lo) cells slots := by
  refine rAload_n dL_law_1272 rfl ?_
  refine rAload_n dL_law_1273 rfl ?_
  refine rIload dL_law_1274 rfl ?_
  refine rIconst (v := nI 1) dL_law_1276 (by decide) ?_
  refine nIadd dL_law_1277 ?_
  refine rSld dL_law_1278 (vp_in_nI (by omega) (by omega)) ?_
  refine rAload_n dL_law_1279 rfl ?_
  refine rCall (mc := (rmD 12 10 60).cells) (ms := (rmD 12 10 60).slots) (rest := []) (rRunSW (M' := mL_pool) (As := [.ref (ad V 0), .int (gsx G (nI (i + 1)).toNatClampNeg), .ref (ad V 63)]) dL_law_1280 (by decide) mk_L_pool ms_L_pool lw_L_151 ⟨(Nat.le_of_ble_eq_true rfl), (Nat.le_of_ble_eq_true rfl)⟩ rfl (Nat.le_of_ble_eq_true rfl) hc hs (c_L_pool ho hq hq1 hh hok hB hfl)) (fun v w hv => ?_)
  obtain ⟨v, s1, lo1, rfl, rfl, rfl, p1, p2, p3⟩ := hv
  have hr1 := mod_far hr p2
  show RW G _ _ _ _ 1283 _ [.int (nI (fPool h (gsx G (nI (i + 1)).toNatClampNeg)).1)] _ _ _
  refine rIstore dL_law_1283 (Nat.le_of_ble_eq_true rfl) ?_
  refine rAload_n dL_law_1285 rfl ?_
  refine rAload_n dL_law_1286 rfl ?_
  refine rIload dL_law_1287 rfl ?_
  refine rIconst (v := nI 1) dL_law_1289 (by decide) ?_
  refine nIadd dL_law_1290 ?_
  refine rSld dL_law_1291 (vp_in_nI (by omega) (by omega)) ?_
  refine sCallVi (M' := mX7_pool) (rm' := rmD 9 0 0) (As := [.int (gsx G (nI (i + 1)).toNatClampNeg)]) (rest := []) dL_law_1292 rfl mk_X7_pool mi_X7_pool ll_L_153 ⟨(Nat.le_of_ble_eq_true rfl), (Nat.le_of_ble_eq_true rfl)⟩ hm.1 (by decide) rfl rfl hc hs (c_X7_pool hm hr1 hok hB) rfl (Nat.le_of_ble_eq_true rfl) (fun b s2 hb => ?_)
  obtain ⟨q0, q1, q2, q3⟩ := hb
  refine rIstore dL_law_1295 (Nat.le_of_ble_eq_true rfl) ?_
  refine rAload_n dL_law_1297 rfl ?_
  refine sCallVp (M' := mX7_thrown) (rm' := rmD 1 0 0) (As := []) (rest := []) dL_law_1298 rfl mk_X7_thrown mi_X7_thrown ll_L_91 ⟨(Nat.le_of_ble_eq_true rfl), (Nat.le_of_ble_eq_true rfl)⟩ hm.1 (by decide) rfl rfl hc hs (c_X7_thrown hm) rfl (Nat.le_of_ble_eq_true rfl) (fun k hk => ?_)
  have hk2 : k = nI (fPool h (gsx G (nI (i + 1)).toNatClampNeg)).1 := hk.trans q0
  subst hk2
  refine rIload dL_law_1301 rfl ?_
  refine r_icmp_eq (tgt := 1308) dL_law_1303 (by decide) (fun _ => ?_) (fun c => absurd rfl c)
  refine rIload dL_law_1308 rfl ?_
  have fin : RW G (mLw nm eh) code room_1 (QL G) 1325 [some (.ref (gsb G)), some (.ref (ad V 0)), some (.ref (ad V 47)), some (.ref (ad V 63)), some (.int (nI i)), some (.int (nI (fPool h (gsx G (nI (i + 1)).toNatClampNeg)).1)), some (.int (b))] [] (wS G V s2 lo1) (cells + 10) (slots + 60) := by
    refine rGoto (tgt := 1384) dL_law_1325 (by decide) ?_
    refine rForget (L := [some (.ref (gsb G)), some (.ref (ad V 0)), some (.ref (ad V 47)), some (.ref (ad V 63)), some (.int (nI i)), some (.int (nI (fPool h (gsx G (nI (i + 1)).toNatClampNeg)).1)), some (.int (b))]) (L' := LwL G V i) (by exact ⟨rfl, rfl, rfl, rfl, rfl, trivial⟩) ?_
    exact kk s2 lo1 (fPool h (gsx G (nI (i + 1)).toNatClampNeg)).2.2 (hall_far p1 q3) q2 (ok_same hok sm_pool)
  refine r_if_ne (tgt := 1325) dL_law_1310 (by decide) (fun c => fin) (fun c => ?_)
  have z := r_small le_pool c
  have e1 := p3 z
  have e2 := q1 z
  refine rAload_n dL_law_1313 rfl ?_
  refine rIconst (v := nI 0) dL_law_1314 (by decide) ?_
  refine sLald dL_law_1315 hq (vp_in_nI (by decide) (by decide)) ?_
  refine rIload dL_law_1316 rfl ?_
  refine rI2l dL_law_1318 ?_
  refine rLcmp dL_law_1319 ?_
  have e3 : lo1 (nI 0).toNatClampNeg = b.toInt64 := (by rw [nI_clamp (by decide), e1, ← e2])
  exact r_if_eq (tgt := 1325) dL_law_1320 (by decide) (fun _ => fin) (fun c => absurd (by rw [e3]; exact lg_same _) c)
set_option maxRecDepth 100000 in
set_option maxHeartbeats 4000000 in
theorem k_out {G : gG} {V : wV} {nm : String} {eh : List (Nat × Nat × Nat × Nat)} (hL : gsL G ≤ 1536) (ho : hallAt V 0) (hm : modAt V 47) (hq : shAt V 63 (11, 1, [])) (hq1 : ∀ k, (V.1 k).1 = 11 → k = 63) (hfl : (gl G).stackTraces = false) {i B cells slots : Nat} {s : sgT} {lo : Nat → Int64} {h : hT} (hi : i + 3 ≤ gsL G) (hh : hallIs s 0 h) (hr : modIs s 47 h) (hok : hallOk B h) (hB : B ≤ 19000) (hc : cells + 10 ≤ 651549) (hs : slots + 60 ≤ 7141458) (kk : ∀ (s' : sgT) (lo' : Nat → Int64) (h' : hT), hallIs s' 0 h' → modIs s' 47 h' → hallOk (B + 12) h' → RW G (mLw nm eh) code room_1 (QL G) 1384 (LwL G V i) [] (wS G V s' lo') (cells + 10) (slots + 60)) : RW G (mLw nm eh) code room_1 (QL G) 1328 (LwL G V i) [] (wS G V s lo) cells slots := by
  refine rAload_n dL_law_1328 rfl ?_
  refine rAload_n dL_law_1329 rfl ?_
  refine rIload dL_law_1330 rfl ?_
  refine rIconst (v := nI 1) dL_law_1332 (by decide) ?_
  refine nIadd dL_law_1333 ?_
  refine rSld dL_law_1334 (vp_in_nI (by omega) (by omega)) ?_
  refine rAload_n dL_law_1335 rfl ?_
  refine rCall (mc := (rmD 12 10 60).cells) (ms := (rmD 12 10 60).slots) (rest := []) (rRunSW (M' := mL_out) (As := [.ref (ad V 0), .int (gsx G (nI (i + 1)).toNatClampNeg), .ref (ad V 63)]) dL_law_1336 (by decide) mk_L_out ms_L_out lw_L_154 ⟨(Nat.le_of_ble_eq_true rfl), (Nat.le_of_ble_eq_true rfl)⟩ rfl (Nat.le_of_ble_eq_true rfl) hc hs (c_L_out ho hq hq1 hh hok hB hfl)) (fun v w hv => ?_)
  obtain ⟨v, s1, lo1, rfl, rfl, rfl, p1, p2, p3⟩ := hv
  have hr1 := mod_far hr p2
  show RW G _ _ _ _ 1339 _ [.int (nI (fOut h (gsx G (nI (i + 1)).toNatClampNeg)).1)] _ _ _
  refine rIstore dL_law_1339 (Nat.le_of_ble_eq_true rfl) ?_
  refine rAload_n dL_law_1341 rfl ?_
  refine rAload_n dL_law_1342 rfl ?_
  refine rIload dL_law_1343 rfl ?_
  refine rIconst (v := nI 1) dL_law_1345 (by decide) ?_
  refine nIadd dL_law_1346 ?_
  refine rSld dL_law_1347 (vp_in_nI (by omega) (by omega)) ?_
  refine sCallVi (M' := mX7_out) (rm' := rmD 9 0 0) (As := [.int (gsx G (nI (i + 1)).toNatClampNeg)]) (rest := []) dL_law_1348 rfl mk_X7_out mi_X7_out ll_L_156 ⟨(Nat.le_of_ble_eq_true rfl), (Nat.le_of_ble_eq_true rfl)⟩ hm.1 (by decide) rfl rfl hc hs (c_X7_out hm hr1 hok hB) rfl (Nat.le_of_ble_eq_true rfl) (fun b s2 hb => ?_)
  obtain ⟨q0, q1, q2, q3⟩ := hb
  refine rIstore dL_law_1351 (Nat.le_of_ble_eq_true rfl) ?_
  refine rAload_n dL_law_1353 rfl ?_
  refine sCallVp (M' := mX7_thrown) (rm' := rmD 1 0 0) (As := []) (rest := []) dL_law_1354 rfl mk_X7_thrown mi_X7_thrown ll_L_91 ⟨(Nat.le_of_ble_eq_true rfl), (Nat.le_of_ble_eq_true rfl)⟩ hm.1 (by decide) rfl rfl hc hs (c_X7_thrown hm) rfl (Nat.le_of_ble_eq_true rfl) (fun k hk => ?_)
  have hk2 : k = nI (fOut h (gsx G (nI (i + 1)).toNatClampNeg)).1 := hk.trans q0
  subst hk2
  refine rIload dL_law_1357 rfl ?_
  refine r_icmp_eq (tgt := 1364) dL_law_1359 (by decide) (fun _ => ?_) (fun c => absurd rfl c)
  refine rIload dL_law_1364 rfl ?_
  have fin : RW G (mLw nm eh) code room_1 (QL G) 1381 [some (.ref (gsb G)), some (.ref (ad V 0)), some (.ref (ad V 47)), some (.ref (ad V 63)), some (.int (nI i)), some (.int (nI (fOut h (gsx G (nI (i + 1)).toNatClampNeg)).1)), some (.int (b))] [] (wS G V s2 lo1) (cells + 10) (slots + 60) := by
    refine rGoto (tgt := 1384) dL_law_1381 (by decide) ?_
    refine rForget (L := [some (.ref (gsb G)), some (.ref (ad V 0)), some (.ref (ad V 47)), some (.ref (ad V 63)), some (.int (nI i)), some (.int (nI (fOut h (gsx G (nI (i + 1)).toNatClampNeg)).1)), some (.int (b))]) (L' := LwL G V i) (by exact ⟨rfl, rfl, rfl, rfl, rfl, trivial⟩) ?_
    exact kk s2 lo1 (fOut h (gsx G (nI (i + 1)).toNatClampNeg)).2.2 (hall_far p1 q3) q2 (ok_same hok sm_out)
  refine r_if_ne (tgt := 1381) dL_law_1366 (by decide) (fun c => fin) (fun c => ?_)
  have z := r_small le_out c
  have e1 := p3 z
  have e2 := q1 z
  refine rAload_n dL_law_1369 rfl ?_
  refine rIconst (v := nI 0) dL_law_1370 (by decide) ?_
  refine sLald dL_law_1371 hq (vp_in_nI (by decide) (by decide)) ?_
  refine rIload dL_law_1372 rfl ?_
  refine rI2l dL_law_1374 ?_
  refine rLcmp dL_law_1375 ?_
  have e3 : lo1 (nI 0).toNatClampNeg = b.toInt64 := (by rw [nI_clamp (by decide), e1, ← e2])
  exact r_if_eq (tgt := 1381) dL_law_1376 (by decide) (fun _ => fin) (fun c => absurd (by rw [e3]; exact lg_same _) c)
