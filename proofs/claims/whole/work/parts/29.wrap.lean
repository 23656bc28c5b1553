/-! the law's wrappers (by program) -/
def wPost (o : Nat) (s : sgT) (r : rT) (v : Int32) (s' : sgT) (lo' : Nat → Int64) : Prop := v = nI r.1 ∧ hallIs s' o r.2.2 ∧ hFr s s' o ∧ (r.1 = 0 → lo' 0 = r.2.1.toInt64)
def CW (G : gG) (V : wV) (M : mT) (cc : ByteArray) (rm : Room) (args : List Value) (s : sgT) (lo : Nat → Int64) (o : Nat) (r : rT) : Prop :=
  CT G M cc rm args (wS G V s lo) (fun v w => ∃ (x : Int32) (s' : sgT) (lo' : Nat → Int64), v = some (.int x) ∧ w = wS G V s' lo' ∧ wPost o s r x s' lo') (fun _ _ => False)
theorem upL_0 {lo : Nat → Int64} {x : Int64} : vp_updL lo (nI 0).toNatClampNeg x 0 = x := by
  rw [nI_clamp (by decide)]
  exact pk_uLs
theorem cl_L_13 : Cond.classLink RL 13 xIA ∈ gWds := gMem (i := 179) (by decide +kernel) (by rfl)
theorem cl_L_15 : Cond.classLink RL 15 xIS ∈ gWds := gMem (i := 180) (by decide +kernel) (by rfl)
theorem cl_L_20 : Cond.classLink RL 20 xIO ∈ gWds := gMem (i := 277) (by decide +kernel) (by rfl)
theorem cl_L_33 : Cond.classLink RL 33 xNS ∈ gWds := gMem (i := 345) (by decide +kernel) (by rfl)
theorem ca_xIA : Cond.castable xIA xIA ∈ tables_1 := List.mem_of_getElem? (i := 187) (by decide +kernel)
theorem ca_xIS : Cond.castable xIS xIS ∈ tables_1 := List.mem_of_getElem? (i := 260) (by decide +kernel)
theorem ca_xIO : Cond.castable xIO xIO ∈ tables_1 := List.mem_of_getElem? (i := 288) (by decide +kernel)
theorem ca_xNS : Cond.castable xNS xNS ∈ tables_1 := List.mem_of_getElem? (i := 356) (by decide +kernel)
theorem tog_01 {h : hT} {x r : Int32} (e : r = (fToggle h x).2.1) (e0 : (fToggle h x).1 = 0) : r = 0 ∨ r = nI 1 := by
  unfold fToggle at e e0
  split at e
  · rename_i hc
    rw [hc] at e0
    exact absurd e0 (Nat.succ_ne_zero _)
  · rw [e]
    show bI _ = 0 ∨ bI _ = nI 1
    cases pLck _
    · exact Or.inr rfl
    · exact Or.inl rfl

set_option maxRecDepth 100000 in
set_option maxHeartbeats 4000000 in
theorem c_L_tell {G : gG} {V : wV} {lo : Nat → Int64} {o q : Nat} (ho : hallAt V o) (hq : shAt V q (11, 1, [])) (hq1 : ∀ k, (V.1 k).1 = 11 → k = q) {s : sgT} {h : hT} (hh : hallIs s o h) {B : Nat} (hok : hallOk B h) (hB : B ≤ 19000) (hfl : (gl G).stackTraces = false) {x : Int32} : CW G V mL_tell cL_tell (rmD 12 10 60) [.ref (ad V o), .int x, .ref (ad V q)] s lo o (fTell h x) := by
  refine CT.ofH (by decide) (by decide +kernel) (by intro v hv; simp only [List.mem_cons, List.not_mem_nil, or_false] at hv; rcases hv with rfl | rfl | rfl <;> rfl) (Nat.le_of_ble_eq_true rfl) ?_
  show RW G _ _ _ _ 0 [some (.ref (ad V o)), some (.int x), some (.ref (ad V q)), none] [] _ 0 0
  refine rAload_n dL_tell_0 rfl ?_
  refine rIconst (v := nI 0) dL_tell_1 (by decide) ?_
  refine rAload_n dL_tell_2 rfl ?_
  refine rIload_n dL_tell_3 rfl ?_
  refine rCallC (rRunV (M' := mX6_tell) (As := [.int x]) (rest := [.int (nI 0), .ref (ad V q)]) dL_tell_4 rfl mk_X6_tell mi_X6_tell ll_L_7 ⟨(Nat.le_of_ble_eq_true rfl), (Nat.le_of_ble_eq_true rfl)⟩ o (by rw [wS_at ho.1, cel_O ho.1 (by decide)]) rfl rfl (Nat.le_of_ble_eq_true rfl) (Nat.le_of_ble_eq_true rfl) (Nat.le_of_ble_eq_true rfl) (c_X6_tell ho hh hok hB hfl)) (fun E w hE => ?_) (fun v w hv => ?_)
  · obtain ⟨rfl, e0, k, e1, e2⟩ := hE
    rcases k with _ | k
    · have e3 : xIA = E := Option.some.inj e2
      subst e3
      refine ⟨[], [(0, 9, 15, 15)], (0, 9, 12, 13), xIA, rfl, ?_, ⟨by decide, by decide⟩, by decide, cl_L_13, ca_xIA, fun qq => ?_⟩
      · intro z hz
        cases hz
      · refine rAstore_n dL_tell_12 (by decide) ?_
        refine rIconst (v := nI 1) dL_tell_13 (by decide) ?_
        exact rIret dL_tell_14 rfl rfl (Nat.le_of_ble_eq_true rfl) (Nat.le_of_ble_eq_true rfl) ⟨nI 1, s, lo, rfl, rfl, by rw [e1], by rw [e0]; exact hh, hFr.refl, fun z => absurd (e1.symm.trans z) (Nat.succ_ne_zero _)⟩
    rcases k with _ | k
    · have e3 : xIS = E := Option.some.inj e2
      subst e3
      refine ⟨[(0, 9, 12, 13)], [], (0, 9, 15, 15), xIS, rfl, ?_, ⟨by decide, by decide⟩, by decide, cl_L_15, ca_xIS, fun qq => ?_⟩
      · intro z hz
        simp only [List.mem_cons, List.not_mem_nil, or_false] at hz
        subst hz
        · exact ⟨by decide, xIA, cl_L_13, by decide⟩
      · refine rAstore_n dL_tell_15 (by decide) ?_
        refine rIconst (v := nI 2) dL_tell_16 (by decide) ?_
        exact rIret dL_tell_17 rfl rfl (Nat.le_of_ble_eq_true rfl) (Nat.le_of_ble_eq_true rfl) ⟨nI 2, s, lo, rfl, rfl, by rw [e1], by rw [e0]; exact hh, hFr.refl, fun z => absurd (e1.symm.trans z) (Nat.succ_ne_zero _)⟩
    exact absurd e2 (by simp)
  · obtain ⟨s1, rfl, r, rfl, p0, p1, p2, p3⟩ := hv
    refine rI2l dL_tell_7 ?_
    refine sLast dL_tell_8 hq hq1 (vp_in_nI (by decide) (by decide)) ?_
    refine rGoto (tgt := 18) dL_tell_9 (by decide) ?_
    refine rIconst (v := nI 0) dL_tell_18 (by decide) ?_
    exact rIret dL_tell_19 rfl rfl (Nat.le_of_ble_eq_true rfl) (Nat.le_of_ble_eq_true rfl) ⟨nI 0, s1, _, rfl, rfl, by rw [p0], p2, p3, fun _ => by rw [upL_0, p1]⟩
set_option maxRecDepth 100000 in
set_option maxHeartbeats 4000000 in
theorem c_L_roll {G : gG} {V : wV} {lo : Nat → Int64} {o q : Nat} (ho : hallAt V o) (hq : shAt V q (11, 1, [])) (hq1 : ∀ k, (V.1 k).1 = 11 → k = q) {s : sgT} {h : hT} (hh : hallIs s o h) {B : Nat} (hok : hallOk B h) (hB : B ≤ 19000) (hfl : (gl G).stackTraces = false) {x : Int32} : CW G V mL_roll cL_roll (rmD 12 10 60) [.ref (ad V o), .int x, .ref (ad V q)] s lo o (fRoll h x) := by
  refine CT.ofH (by decide) (by decide +kernel) (by intro v hv; simp only [List.mem_cons, List.not_mem_nil, or_false] at hv; rcases hv with rfl | rfl | rfl <;> rfl) (Nat.le_of_ble_eq_true rfl) ?_
  show RW G _ _ _ _ 0 [some (.ref (ad V o)), some (.int x), some (.ref (ad V q)), none] [] _ 0 0
  refine rAload_n dL_roll_0 rfl ?_
  refine rIconst (v := nI 0) dL_roll_1 (by decide) ?_
  refine rAload_n dL_roll_2 rfl ?_
  refine rIload_n dL_roll_3 rfl ?_
  refine rCallC (rRunV (M' := mX6_roll) (As := [.int x]) (rest := [.int (nI 0), .ref (ad V q)]) dL_roll_4 rfl mk_X6_roll mi_X6_roll ll_L_17 ⟨(Nat.le_of_ble_eq_true rfl), (Nat.le_of_ble_eq_true rfl)⟩ o (by rw [wS_at ho.1, cel_O ho.1 (by decide)]) rfl rfl (Nat.le_of_ble_eq_true rfl) (Nat.le_of_ble_eq_true rfl) (Nat.le_of_ble_eq_true rfl) (c_X6_roll ho hh hok hB hfl)) (fun E w hE => ?_) (fun v w hv => ?_)
  · obtain ⟨rfl, e0, k, e1, e2⟩ := hE
    rcases k with _ | k
    · have e3 : xIO = E := Option.some.inj e2
      subst e3
      refine ⟨[], [(0, 9, 15, 15)], (0, 9, 12, 20), xIO, rfl, ?_, ⟨by decide, by decide⟩, by decide, cl_L_20, ca_xIO, fun qq => ?_⟩
      · intro z hz
        cases hz
      · refine rAstore_n dL_roll_12 (by decide) ?_
        refine rIconst (v := nI 1) dL_roll_13 (by decide) ?_
        exact rIret dL_roll_14 rfl rfl (Nat.le_of_ble_eq_true rfl) (Nat.le_of_ble_eq_true rfl) ⟨nI 1, s, lo, rfl, rfl, by rw [e1], by rw [e0]; exact hh, hFr.refl, fun z => absurd (e1.symm.trans z) (Nat.succ_ne_zero _)⟩
    rcases k with _ | k
    · have e3 : xIS = E := Option.some.inj e2
      subst e3
      refine ⟨[(0, 9, 12, 20)], [], (0, 9, 15, 15), xIS, rfl, ?_, ⟨by decide, by decide⟩, by decide, cl_L_15, ca_xIS, fun qq => ?_⟩
      · intro z hz
        simp only [List.mem_cons, List.not_mem_nil, or_false] at hz
        subst hz
        · exact ⟨by decide, xIO, cl_L_20, by decide⟩
      · refine rAstore_n dL_roll_15 (by decide) ?_
        refine rIconst (v := nI 2) dL_roll_16 (by decide) ?_
        exact rIret dL_roll_17 rfl rfl (Nat.le_of_ble_eq_true rfl) (Nat.le_of_ble_eq_true rfl) ⟨nI 2, s, lo, rfl, rfl, by rw [e1], by rw [e0]; exact hh, hFr.refl, fun z => absurd (e1.symm.trans z) (Nat.succ_ne_zero _)⟩
    exact absurd e2 (by simp)
  · obtain ⟨s1, rfl, r, rfl, p0, p1, p2, p3⟩ := hv
    refine rI2l dL_roll_7 ?_
    refine sLast dL_roll_8 hq hq1 (vp_in_nI (by decide) (by decide)) ?_
    refine rGoto (tgt := 18) dL_roll_9 (by decide) ?_
    refine rIconst (v := nI 0) dL_roll_18 (by decide) ?_
    exact rIret dL_roll_19 rfl rfl (Nat.le_of_ble_eq_true rfl) (Nat.le_of_ble_eq_true rfl) ⟨nI 0, s1, _, rfl, rfl, by rw [p0], p2, p3, fun _ => by rw [upL_0, p1]⟩
set_option maxRecDepth 100000 in
set_option maxHeartbeats 4000000 in
theorem c_L_toggleLock {G : gG} {V : wV} {lo : Nat → Int64} {o q : Nat} (ho : hallAt V o) (hq : shAt V q (11, 1, [])) (hq1 : ∀ k, (V.1 k).1 = 11 → k = q) {s : sgT} {h : hT} (hh : hallIs s o h) {B : Nat} (hok : hallOk B h) (hB : B ≤ 19000) (hfl : (gl G).stackTraces = false) {x : Int32} : CW G V mL_toggleLock cL_toggleLock (rmD 12 10 60) [.ref (ad V o), .int x, .ref (ad V q)] s lo o (fToggle h x) := by
  refine CT.ofH (by decide) (by decide +kernel) (by intro v hv; simp only [List.mem_cons, List.not_mem_nil, or_false] at hv; rcases hv with rfl | rfl | rfl <;> rfl) (Nat.le_of_ble_eq_true rfl) ?_
  show RW G _ _ _ _ 0 [some (.ref (ad V o)), some (.int x), some (.ref (ad V q)), none] [] _ 0 0
  refine rAload_n dL_toggleLock_0 rfl ?_
  refine rIconst (v := nI 0) dL_toggleLock_1 (by decide) ?_
  refine rAload_n dL_toggleLock_2 rfl ?_
  refine rIload_n dL_toggleLock_3 rfl ?_
  refine rCallC (rRunV (M' := mX6_toggleLock) (As := [.int x]) (rest := [.int (nI 0), .ref (ad V q)]) dL_toggleLock_4 rfl mk_X6_toggleLock mi_X6_toggleLock ll_L_22 ⟨(Nat.le_of_ble_eq_true rfl), (Nat.le_of_ble_eq_true rfl)⟩ o (by rw [wS_at ho.1, cel_O ho.1 (by decide)]) rfl rfl (Nat.le_of_ble_eq_true rfl) (Nat.le_of_ble_eq_true rfl) (Nat.le_of_ble_eq_true rfl) (c_X6_toggleLock ho hh hfl)) (fun E w hE => ?_) (fun v w hv => ?_)
  · obtain ⟨rfl, e0, k, e1, e2⟩ := hE
    rcases k with _ | k
    · have e3 : xIO = E := Option.some.inj e2
      subst e3
      refine ⟨[], [], (0, 16, 19, 20), xIO, rfl, ?_, ⟨by decide, by decide⟩, by decide, cl_L_20, ca_xIO, fun qq => ?_⟩
      · intro z hz
        cases hz
      · refine rAstore_n dL_toggleLock_19 (by decide) ?_
        refine rIconst (v := nI 1) dL_toggleLock_20 (by decide) ?_
        exact rIret dL_toggleLock_21 rfl rfl (Nat.le_of_ble_eq_true rfl) (Nat.le_of_ble_eq_true rfl) ⟨nI 1, s, lo, rfl, rfl, by rw [e1], by rw [e0]; exact hh, hFr.refl, fun z => absurd (e1.symm.trans z) (Nat.succ_ne_zero _)⟩
    exact absurd e2 (by simp)
  · obtain ⟨s1, rfl, r, rfl, p0, p1, p2, p3⟩ := hv
    refine r_if_eq (tgt := 14) dL_toggleLock_7 (by decide) (fun c => ?_) (fun c => ?_)
    · subst c
      refine rLconst (v := 0) dL_toggleLock_14 rfl ?_
      refine sLast dL_toggleLock_15 hq hq1 (vp_in_nI (by decide) (by decide)) ?_
      refine rGoto (tgt := 22) dL_toggleLock_16 (by decide) ?_
      refine rIconst (v := nI 0) dL_toggleLock_22 (by decide) ?_
      exact rIret dL_toggleLock_23 rfl rfl (Nat.le_of_ble_eq_true rfl) (Nat.le_of_ble_eq_true rfl) ⟨nI 0, s1, _, rfl, rfl, by rw [p0], p2, p3, fun _ => by rw [upL_0, ← p1]; rfl⟩
    · have c1 : r = nI 1 := (tog_01 p1 p0).resolve_left c
      subst c1
      refine rLconst (v := 1) dL_toggleLock_10 rfl ?_
      refine rGoto (tgt := 15) dL_toggleLock_11 (by decide) ?_
      refine sLast dL_toggleLock_15 hq hq1 (vp_in_nI (by decide) (by decide)) ?_
      refine rGoto (tgt := 22) dL_toggleLock_16 (by decide) ?_
      refine rIconst (v := nI 0) dL_toggleLock_22 (by decide) ?_
      exact rIret dL_toggleLock_23 rfl rfl (Nat.le_of_ble_eq_true rfl) (Nat.le_of_ble_eq_true rfl) ⟨nI 0, s1, _, rfl, rfl, by rw [p0], p2, p3, fun _ => by rw [upL_0, ← p1]; rfl⟩
set_option maxRecDepth 100000 in
set_option maxHeartbeats 4000000 in
theorem c_L_buyLevel {G : gG} {V : wV} {lo : Nat → Int64} {o q : Nat} (ho : hallAt V o) (hq : shAt V q (11, 1, [])) (hq1 : ∀ k, (V.1 k).1 = 11 → k = q) {s : sgT} {h : hT} (hh : hallIs s o h) {B : Nat} (hok : hallOk B h) (hB : B ≤ 19000) (hfl : (gl G).stackTraces = false) {x : Int32} : CW G V mL_buyLevel cL_buyLevel (rmD 12 10 60) [.ref (ad V o), .int x, .ref (ad V q)] s lo o (fLevel h x) := by
  refine CT.ofH (by decide) (by decide +kernel) (by intro v hv; simp only [List.mem_cons, List.not_mem_nil, or_false] at hv; rcases hv with rfl | rfl | rfl <;> rfl) (Nat.le_of_ble_eq_true rfl) ?_
  show RW G _ _ _ _ 0 [some (.ref (ad V o)), some (.int x), some (.ref (ad V q)), none] [] _ 0 0
  refine rAload_n dL_buyLevel_0 rfl ?_
  refine rIconst (v := nI 0) dL_buyLevel_1 (by decide) ?_
  refine rAload_n dL_buyLevel_2 rfl ?_
  refine rIload_n dL_buyLevel_3 rfl ?_
  refine rCallC (rRunV (M' := mX6_buyLevel) (As := [.int x]) (rest := [.int (nI 0), .ref (ad V q)]) dL_buyLevel_4 rfl mk_X6_buyLevel mi_X6_buyLevel ll_L_26 ⟨(Nat.le_of_ble_eq_true rfl), (Nat.le_of_ble_eq_true rfl)⟩ o (by rw [wS_at ho.1, cel_O ho.1 (by decide)]) rfl rfl (Nat.le_of_ble_eq_true rfl) (Nat.le_of_ble_eq_true rfl) (Nat.le_of_ble_eq_true rfl) (c_X6_buyLevel ho hh hok hB hfl)) (fun E w hE => ?_) (fun v w hv => ?_)
  · obtain ⟨rfl, e0, k, e1, e2⟩ := hE
    rcases k with _ | k
    · have e3 : xIO = E := Option.some.inj e2
      subst e3
      refine ⟨[], [(0, 9, 15, 15)], (0, 9, 12, 20), xIO, rfl, ?_, ⟨by decide, by decide⟩, by decide, cl_L_20, ca_xIO, fun qq => ?_⟩
      · intro z hz
        cases hz
      · refine rAstore_n dL_buyLevel_12 (by decide) ?_
        refine rIconst (v := nI 1) dL_buyLevel_13 (by decide) ?_
        exact rIret dL_buyLevel_14 rfl rfl (Nat.le_of_ble_eq_true rfl) (Nat.le_of_ble_eq_true rfl) ⟨nI 1, s, lo, rfl, rfl, by rw [e1], by rw [e0]; exact hh, hFr.refl, fun z => absurd (e1.symm.trans z) (Nat.succ_ne_zero _)⟩
    rcases k with _ | k
    · have e3 : xIS = E := Option.some.inj e2
      subst e3
      refine ⟨[(0, 9, 12, 20)], [], (0, 9, 15, 15), xIS, rfl, ?_, ⟨by decide, by decide⟩, by decide, cl_L_15, ca_xIS, fun qq => ?_⟩
      · intro z hz
        simp only [List.mem_cons, List.not_mem_nil, or_false] at hz
        subst hz
        · exact ⟨by decide, xIO, cl_L_20, by decide⟩
      · refine rAstore_n dL_buyLevel_15 (by decide) ?_
        refine rIconst (v := nI 2) dL_buyLevel_16 (by decide) ?_
        exact rIret dL_buyLevel_17 rfl rfl (Nat.le_of_ble_eq_true rfl) (Nat.le_of_ble_eq_true rfl) ⟨nI 2, s, lo, rfl, rfl, by rw [e1], by rw [e0]; exact hh, hFr.refl, fun z => absurd (e1.symm.trans z) (Nat.succ_ne_zero _)⟩
    exact absurd e2 (by simp)
  · obtain ⟨s1, rfl, r, rfl, p0, p1, p2, p3⟩ := hv
    refine rI2l dL_buyLevel_7 ?_
    refine sLast dL_buyLevel_8 hq hq1 (vp_in_nI (by decide) (by decide)) ?_
    refine rGoto (tgt := 18) dL_buyLevel_9 (by decide) ?_
    refine rIconst (v := nI 0) dL_buyLevel_18 (by decide) ?_
    exact rIret dL_buyLevel_19 rfl rfl (Nat.le_of_ble_eq_true rfl) (Nat.le_of_ble_eq_true rfl) ⟨nI 0, s1, _, rfl, rfl, by rw [p0], p2, p3, fun _ => by rw [upL_0, p1]⟩
set_option maxRecDepth 100000 in
set_option maxHeartbeats 4000000 in
theorem c_L_buy {G : gG} {V : wV} {lo : Nat → Int64} {o q : Nat} (ho : hallAt V o) (hq : shAt V q (11, 1, [])) (hq1 : ∀ k, (V.1 k).1 = 11 → k = q) {s : sgT} {h : hT} (hh : hallIs s o h) {B : Nat} (hok : hallOk B h) (hB : B ≤ 19000) (hfl : (gl G).stackTraces = false) {x y : Int32} : CW G V mL_buy cL_buy (rmD 12 10 60) [.ref (ad V o), .int x, .int y, .ref (ad V q)] s lo o (fBuy h x y) := by
  refine CT.ofH (by decide) (by decide +kernel) (by intro v hv; simp only [List.mem_cons, List.not_mem_nil, or_false] at hv; rcases hv with rfl | rfl | rfl | rfl <;> rfl) (Nat.le_of_ble_eq_true rfl) ?_
  show RW G _ _ _ _ 0 [some (.ref (ad V o)), some (.int x), some (.int y), some (.ref (ad V q)), none] [] _ 0 0
  refine rAload_n dL_buy_0 rfl ?_
  refine rIconst (v := nI 0) dL_buy_1 (by decide) ?_
  refine rAload_n dL_buy_2 rfl ?_
  refine rIload_n dL_buy_3 rfl ?_
  refine rIload_n dL_buy_4 rfl ?_
  refine rCallC (rRunV (M' := mX6_buy) (As := [.int x, .int y]) (rest := [.int (nI 0), .ref (ad V q)]) dL_buy_5 rfl mk_X6_buy mi_X6_buy ll_L_29 ⟨(Nat.le_of_ble_eq_true rfl), (Nat.le_of_ble_eq_true rfl)⟩ o (by rw [wS_at ho.1, cel_O ho.1 (by decide)]) rfl rfl (Nat.le_of_ble_eq_true rfl) (Nat.le_of_ble_eq_true rfl) (Nat.le_of_ble_eq_true rfl) (c_X6_buy ho hh hok hB hfl)) (fun E w hE => ?_) (fun v w hv => ?_)
  · obtain ⟨rfl, e0, k, e1, e2⟩ := hE
    rcases k with _ | k
    · have e3 : xIO = E := Option.some.inj e2
      subst e3
      refine ⟨[], [(0, 10, 17, 33), (0, 10, 21, 15)], (0, 10, 13, 20), xIO, rfl, ?_, ⟨by decide, by decide⟩, by decide, cl_L_20, ca_xIO, fun qq => ?_⟩
      · intro z hz
        cases hz
      · refine rAstore dL_buy_13 (by decide) ?_
        refine rIconst (v := nI 1) dL_buy_15 (by decide) ?_
        exact rIret dL_buy_16 rfl rfl (Nat.le_of_ble_eq_true rfl) (Nat.le_of_ble_eq_true rfl) ⟨nI 1, s, lo, rfl, rfl, by rw [e1], by rw [e0]; exact hh, hFr.refl, fun z => absurd (e1.symm.trans z) (Nat.succ_ne_zero _)⟩
    rcases k with _ | k
    · have e3 : xNS = E := Option.some.inj e2
      subst e3
      refine ⟨[(0, 10, 13, 20)], [(0, 10, 21, 15)], (0, 10, 17, 33), xNS, rfl, ?_, ⟨by decide, by decide⟩, by decide, cl_L_33, ca_xNS, fun qq => ?_⟩
      · intro z hz
        simp only [List.mem_cons, List.not_mem_nil, or_false] at hz
        subst hz
        · exact ⟨by decide, xIO, cl_L_20, by decide⟩
      · refine rAstore dL_buy_17 (by decide) ?_
        refine rIconst (v := nI 2) dL_buy_19 (by decide) ?_
        exact rIret dL_buy_20 rfl rfl (Nat.le_of_ble_eq_true rfl) (Nat.le_of_ble_eq_true rfl) ⟨nI 2, s, lo, rfl, rfl, by rw [e1], by rw [e0]; exact hh, hFr.refl, fun z => absurd (e1.symm.trans z) (Nat.succ_ne_zero _)⟩
    rcases k with _ | k
    · have e3 : xIS = E := Option.some.inj e2
      subst e3
      refine ⟨[(0, 10, 13, 20), (0, 10, 17, 33)], [], (0, 10, 21, 15), xIS, rfl, ?_, ⟨by decide, by decide⟩, by decide, cl_L_15, ca_xIS, fun qq => ?_⟩
      · intro z hz
        simp only [List.mem_cons, List.not_mem_nil, or_false] at hz
        rcases hz with rfl | rfl
        · exact ⟨by decide, xIO, cl_L_20, by decide⟩
        · exact ⟨by decide, xNS, cl_L_33, by decide⟩
      · refine rAstore dL_buy_21 (by decide) ?_
        refine rIconst (v := nI 3) dL_buy_23 (by decide) ?_
        exact rIret dL_buy_24 rfl rfl (Nat.le_of_ble_eq_true rfl) (Nat.le_of_ble_eq_true rfl) ⟨nI 3, s, lo, rfl, rfl, by rw [e1], by rw [e0]; exact hh, hFr.refl, fun z => absurd (e1.symm.trans z) (Nat.succ_ne_zero _)⟩
    exact absurd e2 (by simp)
  · obtain ⟨s1, rfl, r, rfl, p0, p1, p2, p3⟩ := hv
    refine rI2l dL_buy_8 ?_
    refine sLast dL_buy_9 hq hq1 (vp_in_nI (by decide) (by decide)) ?_
    refine rGoto (tgt := 25) dL_buy_10 (by decide) ?_
    refine rIconst (v := nI 0) dL_buy_25 (by decide) ?_
    exact rIret dL_buy_26 rfl rfl (Nat.le_of_ble_eq_true rfl) (Nat.le_of_ble_eq_true rfl) ⟨nI 0, s1, _, rfl, rfl, by rw [p0], p2, p3, fun _ => by rw [upL_0, p1]⟩
set_option maxRecDepth 100000 in
set_option maxHeartbeats 4000000 in
theorem c_L_sell {G : gG} {V : wV} {lo : Nat → Int64} {o q : Nat} (ho : hallAt V o) (hq : shAt V q (11, 1, [])) (hq1 : ∀ k, (V.1 k).1 = 11 → k = q) {s : sgT} {h : hT} (hh : hallIs s o h) {B : Nat} (hok : hallOk B h) (hB : B ≤ 19000) (hfl : (gl G).stackTraces = false) {x y : Int32} : CW G V mL_sell cL_sell (rmD 12 10 60) [.ref (ad V o), .int x, .int y, .ref (ad V q)] s lo o (fSell h x y) := by
  refine CT.ofH (by decide) (by decide +kernel) (by intro v hv; simp only [List.mem_cons, List.not_mem_nil, or_false] at hv; rcases hv with rfl | rfl | rfl | rfl <;> rfl) (Nat.le_of_ble_eq_true rfl) ?_
  show RW G _ _ _ _ 0 [some (.ref (ad V o)), some (.int x), some (.int y), some (.ref (ad V q)), none] [] _ 0 0
  refine rAload_n dL_sell_0 rfl ?_
  refine rIconst (v := nI 0) dL_sell_1 (by decide) ?_
  refine rAload_n dL_sell_2 rfl ?_
  refine rIload_n dL_sell_3 rfl ?_
  refine rIload_n dL_sell_4 rfl ?_
  refine rCallC (rRunV (M' := mX6_sell) (As := [.int x, .int y]) (rest := [.int (nI 0), .ref (ad V q)]) dL_sell_5 rfl mk_X6_sell mi_X6_sell ll_L_35 ⟨(Nat.le_of_ble_eq_true rfl), (Nat.le_of_ble_eq_true rfl)⟩ o (by rw [wS_at ho.1, cel_O ho.1 (by decide)]) rfl rfl (Nat.le_of_ble_eq_true rfl) (Nat.le_of_ble_eq_true rfl) (Nat.le_of_ble_eq_true rfl) (c_X6_sell ho hh hok hB hfl)) (fun E w hE => ?_) (fun v w hv => ?_)
  · obtain ⟨rfl, e0, k, e1, e2⟩ := hE
    rcases k with _ | k
    · have e3 : xIO = E := Option.some.inj e2
      subst e3
      refine ⟨[], [], (0, 10, 13, 20), xIO, rfl, ?_, ⟨by decide, by decide⟩, by decide, cl_L_20, ca_xIO, fun qq => ?_⟩
      · intro z hz
        cases hz
      · refine rAstore dL_sell_13 (by decide) ?_
        refine rIconst (v := nI 1) dL_sell_15 (by decide) ?_
        exact rIret dL_sell_16 rfl rfl (Nat.le_of_ble_eq_true rfl) (Nat.le_of_ble_eq_true rfl) ⟨nI 1, s, lo, rfl, rfl, by rw [e1], by rw [e0]; exact hh, hFr.refl, fun z => absurd (e1.symm.trans z) (Nat.succ_ne_zero _)⟩
    exact absurd e2 (by simp)
  · obtain ⟨s1, rfl, r, rfl, p0, p1, p2, p3⟩ := hv
    refine rI2l dL_sell_8 ?_
    refine sLast dL_sell_9 hq hq1 (vp_in_nI (by decide) (by decide)) ?_
    refine rGoto (tgt := 17) dL_sell_10 (by decide) ?_
    refine rIconst (v := nI 0) dL_sell_17 (by decide) ?_
    exact rIret dL_sell_18 rfl rfl (Nat.le_of_ble_eq_true rfl) (Nat.le_of_ble_eq_true rfl) ⟨nI 0, s1, _, rfl, rfl, by rw [p0], p2, p3, fun _ => by rw [upL_0, p1]⟩
set_option maxRecDepth 100000 in
set_option maxHeartbeats 4000000 in
theorem c_L_toBoard {G : gG} {V : wV} {lo : Nat → Int64} {o q : Nat} (ho : hallAt V o) (hq : shAt V q (11, 1, [])) (hq1 : ∀ k, (V.1 k).1 = 11 → k = q) {s : sgT} {h : hT} (hh : hallIs s o h) {B : Nat} (hok : hallOk B h) (hB : B ≤ 19000) (hfl : (gl G).stackTraces = false) {x y : Int32} : CW G V mL_toBoard cL_toBoard (rmD 12 10 60) [.ref (ad V o), .int x, .int y, .ref (ad V q)] s lo o (fBoard h x y) := by
  refine CT.ofH (by decide) (by decide +kernel) (by intro v hv; simp only [List.mem_cons, List.not_mem_nil, or_false] at hv; rcases hv with rfl | rfl | rfl | rfl <;> rfl) (Nat.le_of_ble_eq_true rfl) ?_
  show RW G _ _ _ _ 0 [some (.ref (ad V o)), some (.int x), some (.int y), some (.ref (ad V q)), none] [] _ 0 0
  refine rAload_n dL_toBoard_0 rfl ?_
  refine rIconst (v := nI 0) dL_toBoard_1 (by decide) ?_
  refine rAload_n dL_toBoard_2 rfl ?_
  refine rIload_n dL_toBoard_3 rfl ?_
  refine rIload_n dL_toBoard_4 rfl ?_
  refine rCallC (rRunV (M' := mX6_toBoard) (As := [.int x, .int y]) (rest := [.int (nI 0), .ref (ad V q)]) dL_toBoard_5 rfl mk_X6_toBoard mi_X6_toBoard ll_L_38 ⟨(Nat.le_of_ble_eq_true rfl), (Nat.le_of_ble_eq_true rfl)⟩ o (by rw [wS_at ho.1, cel_O ho.1 (by decide)]) rfl rfl (Nat.le_of_ble_eq_true rfl) (Nat.le_of_ble_eq_true rfl) (Nat.le_of_ble_eq_true rfl) (c_X6_toBoard ho hh hok hB hfl)) (fun E w hE => ?_) (fun v w hv => ?_)
  · obtain ⟨rfl, e0, k, e1, e2⟩ := hE
    rcases k with _ | k
    · have e3 : xIO = E := Option.some.inj e2
      subst e3
      refine ⟨[], [(0, 10, 17, 15)], (0, 10, 13, 20), xIO, rfl, ?_, ⟨by decide, by decide⟩, by decide, cl_L_20, ca_xIO, fun qq => ?_⟩
      · intro z hz
        cases hz
      · refine rAstore dL_toBoard_13 (by decide) ?_
        refine rIconst (v := nI 1) dL_toBoard_15 (by decide) ?_
        exact rIret dL_toBoard_16 rfl rfl (Nat.le_of_ble_eq_true rfl) (Nat.le_of_ble_eq_true rfl) ⟨nI 1, s, lo, rfl, rfl, by rw [e1], by rw [e0]; exact hh, hFr.refl, fun z => absurd (e1.symm.trans z) (Nat.succ_ne_zero _)⟩
    rcases k with _ | k
    · have e3 : xIS = E := Option.some.inj e2
      subst e3
      refine ⟨[(0, 10, 13, 20)], [], (0, 10, 17, 15), xIS, rfl, ?_, ⟨by decide, by decide⟩, by decide, cl_L_15, ca_xIS, fun qq => ?_⟩
      · intro z hz
        simp only [List.mem_cons, List.not_mem_nil, or_false] at hz
        subst hz
        · exact ⟨by decide, xIO, cl_L_20, by decide⟩
      · refine rAstore dL_toBoard_17 (by decide) ?_
        refine rIconst (v := nI 2) dL_toBoard_19 (by decide) ?_
        exact rIret dL_toBoard_20 rfl rfl (Nat.le_of_ble_eq_true rfl) (Nat.le_of_ble_eq_true rfl) ⟨nI 2, s, lo, rfl, rfl, by rw [e1], by rw [e0]; exact hh, hFr.refl, fun z => absurd (e1.symm.trans z) (Nat.succ_ne_zero _)⟩
    exact absurd e2 (by simp)
  · obtain ⟨s1, rfl, r, rfl, p0, p1, p2, p3⟩ := hv
    refine rI2l dL_toBoard_8 ?_
    refine sLast dL_toBoard_9 hq hq1 (vp_in_nI (by decide) (by decide)) ?_
    refine rGoto (tgt := 21) dL_toBoard_10 (by decide) ?_
    refine rIconst (v := nI 0) dL_toBoard_21 (by decide) ?_
    exact rIret dL_toBoard_22 rfl rfl (Nat.le_of_ble_eq_true rfl) (Nat.le_of_ble_eq_true rfl) ⟨nI 0, s1, _, rfl, rfl, by rw [p0], p2, p3, fun _ => by rw [upL_0, p1]⟩
set_option maxRecDepth 100000 in
set_option maxHeartbeats 4000000 in
theorem c_L_toBench {G : gG} {V : wV} {lo : Nat → Int64} {o q : Nat} (ho : hallAt V o) (hq : shAt V q (11, 1, [])) (hq1 : ∀ k, (V.1 k).1 = 11 → k = q) {s : sgT} {h : hT} (hh : hallIs s o h) {B : Nat} (hok : hallOk B h) (hB : B ≤ 19000) (hfl : (gl G).stackTraces = false) {x y : Int32} : CW G V mL_toBench cL_toBench (rmD 12 10 60) [.ref (ad V o), .int x, .int y, .ref (ad V q)] s lo o (fBench h x y) := by
  refine CT.ofH (by decide) (by decide +kernel) (by intro v hv; simp only [List.mem_cons, List.not_mem_nil, or_false] at hv; rcases hv with rfl | rfl | rfl | rfl <;> rfl) (Nat.le_of_ble_eq_true rfl) ?_
  show RW G _ _ _ _ 0 [some (.ref (ad V o)), some (.int x), some (.int y), some (.ref (ad V q)), none] [] _ 0 0
  refine rAload_n dL_toBench_0 rfl ?_
  refine rIconst (v := nI 0) dL_toBench_1 (by decide) ?_
  refine rAload_n dL_toBench_2 rfl ?_
  refine rIload_n dL_toBench_3 rfl ?_
  refine rIload_n dL_toBench_4 rfl ?_
  refine rCallC (rRunV (M' := mX6_toBench) (As := [.int x, .int y]) (rest := [.int (nI 0), .ref (ad V q)]) dL_toBench_5 rfl mk_X6_toBench mi_X6_toBench ll_L_41 ⟨(Nat.le_of_ble_eq_true rfl), (Nat.le_of_ble_eq_true rfl)⟩ o (by rw [wS_at ho.1, cel_O ho.1 (by decide)]) rfl rfl (Nat.le_of_ble_eq_true rfl) (Nat.le_of_ble_eq_true rfl) (Nat.le_of_ble_eq_true rfl) (c_X6_toBench ho hh hok hB hfl)) (fun E w hE => ?_) (fun v w hv => ?_)
  · obtain ⟨rfl, e0, k, e1, e2⟩ := hE
    rcases k with _ | k
    · have e3 : xIO = E := Option.some.inj e2
      subst e3
      refine ⟨[], [(0, 10, 17, 15)], (0, 10, 13, 20), xIO, rfl, ?_, ⟨by decide, by decide⟩, by decide, cl_L_20, ca_xIO, fun qq => ?_⟩
      · intro z hz
        cases hz
      · refine rAstore dL_toBench_13 (by decide) ?_
        refine rIconst (v := nI 1) dL_toBench_15 (by decide) ?_
        exact rIret dL_toBench_16 rfl rfl (Nat.le_of_ble_eq_true rfl) (Nat.le_of_ble_eq_true rfl) ⟨nI 1, s, lo, rfl, rfl, by rw [e1], by rw [e0]; exact hh, hFr.refl, fun z => absurd (e1.symm.trans z) (Nat.succ_ne_zero _)⟩
    rcases k with _ | k
    · have e3 : xIS = E := Option.some.inj e2
      subst e3
      refine ⟨[(0, 10, 13, 20)], [], (0, 10, 17, 15), xIS, rfl, ?_, ⟨by decide, by decide⟩, by decide, cl_L_15, ca_xIS, fun qq => ?_⟩
      · intro z hz
        simp only [List.mem_cons, List.not_mem_nil, or_false] at hz
        subst hz
        · exact ⟨by decide, xIO, cl_L_20, by decide⟩
      · refine rAstore dL_toBench_17 (by decide) ?_
        refine rIconst (v := nI 2) dL_toBench_19 (by decide) ?_
        exact rIret dL_toBench_20 rfl rfl (Nat.le_of_ble_eq_true rfl) (Nat.le_of_ble_eq_true rfl) ⟨nI 2, s, lo, rfl, rfl, by rw [e1], by rw [e0]; exact hh, hFr.refl, fun z => absurd (e1.symm.trans z) (Nat.succ_ne_zero _)⟩
    exact absurd e2 (by simp)
  · obtain ⟨s1, rfl, r, rfl, p0, p1, p2, p3⟩ := hv
    refine rI2l dL_toBench_8 ?_
    refine sLast dL_toBench_9 hq hq1 (vp_in_nI (by decide) (by decide)) ?_
    refine rGoto (tgt := 21) dL_toBench_10 (by decide) ?_
    refine rIconst (v := nI 0) dL_toBench_21 (by decide) ?_
    exact rIret dL_toBench_22 rfl rfl (Nat.le_of_ble_eq_true rfl) (Nat.le_of_ble_eq_true rfl) ⟨nI 0, s1, _, rfl, rfl, by rw [p0], p2, p3, fun _ => by rw [upL_0, p1]⟩
set_option maxRecDepth 100000 in
set_option maxHeartbeats 4000000 in
theorem c_L_round {G : gG} {V : wV} {lo : Nat → Int64} {o q : Nat} (ho : hallAt V o) (hq : shAt V q (11, 1, [])) (hq1 : ∀ k, (V.1 k).1 = 11 → k = q) {s : sgT} {h : hT} (hh : hallIs s o h) {B : Nat} (hok : hallOk B h) (hB : B ≤ 19000) (hfl : (gl G).stackTraces = false) : CW G V mL_round cL_round (rmD 12 10 60) [.ref (ad V o), .ref (ad V q)] s lo o (fRound h) := by
  refine CT.ofH (by decide) (by decide +kernel) (by intro v hv; simp only [List.mem_cons, List.not_mem_nil, or_false] at hv; rcases hv with rfl | rfl <;> rfl) (Nat.le_of_ble_eq_true rfl) ?_
  show RW G _ _ _ _ 0 [some (.ref (ad V o)), some (.ref (ad V q)), none] [] _ 0 0
  refine rAload_n dL_round_0 rfl ?_
  refine rIconst (v := nI 0) dL_round_1 (by decide) ?_
  refine rAload_n dL_round_2 rfl ?_
  refine rCallC (rRunV (M' := mX6_round) (As := []) (rest := [.int (nI 0), .ref (ad V q)]) dL_round_3 rfl mk_X6_round mi_X6_round ll_L_44 ⟨(Nat.le_of_ble_eq_true rfl), (Nat.le_of_ble_eq_true rfl)⟩ o (by rw [wS_at ho.1, cel_O ho.1 (by decide)]) rfl rfl (Nat.le_of_ble_eq_true rfl) (Nat.le_of_ble_eq_true rfl) (Nat.le_of_ble_eq_true rfl) (c_X6_round ho hh hok hB hfl)) (fun E w hE => ?_) (fun v w hv => ?_)
  · obtain ⟨rfl, e0, k, e1, e2⟩ := hE
    rcases k with _ | k
    · have e3 : xIS = E := Option.some.inj e2
      subst e3
      refine ⟨[], [], (0, 8, 11, 15), xIS, rfl, ?_, ⟨by decide, by decide⟩, by decide, cl_L_15, ca_xIS, fun qq => ?_⟩
      · intro z hz
        cases hz
      · refine rAstore_n dL_round_11 (by decide) ?_
        refine rIconst (v := nI 1) dL_round_12 (by decide) ?_
        exact rIret dL_round_13 rfl rfl (Nat.le_of_ble_eq_true rfl) (Nat.le_of_ble_eq_true rfl) ⟨nI 1, s, lo, rfl, rfl, by rw [e1], by rw [e0]; exact hh, hFr.refl, fun z => absurd (e1.symm.trans z) (Nat.succ_ne_zero _)⟩
    exact absurd e2 (by simp)
  · obtain ⟨s1, rfl, r, rfl, p0, p1, p2, p3⟩ := hv
    refine rI2l dL_round_6 ?_
    refine sLast dL_round_7 hq hq1 (vp_in_nI (by decide) (by decide)) ?_
    refine rGoto (tgt := 14) dL_round_8 (by decide) ?_
    refine rIconst (v := nI 0) dL_round_14 (by decide) ?_
    exact rIret dL_round_15 rfl rfl (Nat.le_of_ble_eq_true rfl) (Nat.le_of_ble_eq_true rfl) ⟨nI 0, s1, _, rfl, rfl, by rw [p0], p2, p3, fun _ => by rw [upL_0, p1]⟩
set_option maxRecDepth 100000 in
set_option maxHeartbeats 4000000 in
theorem c_L_fight {G : gG} {V : wV} {lo : Nat → Int64} {o q : Nat} (ho : hallAt V o) (hq : shAt V q (11, 1, [])) (hq1 : ∀ k, (V.1 k).1 = 11 → k = q) {s : sgT} {h : hT} (hh : hallIs s o h) {B : Nat} (hok : hallOk B h) (hB : B ≤ 19000) (hfl : (gl G).stackTraces = false) {x y : Int32} : CW G V mL_fight cL_fight (rmD 12 10 60) [.ref (ad V o), .int x, .int y, .ref (ad V q)] s lo o (fFight h x y) := by
  refine CT.ofH (by decide) (by decide +kernel) (by intro v hv; simp only [List.mem_cons, List.not_mem_nil, or_false] at hv; rcases hv with rfl | rfl | rfl | rfl <;> rfl) (Nat.le_of_ble_eq_true rfl) ?_
  show RW G _ _ _ _ 0 [some (.ref (ad V o)), some (.int x), some (.int y), some (.ref (ad V q)), none] [] _ 0 0
  refine rAload_n dL_fight_0 rfl ?_
  refine rIconst (v := nI 0) dL_fight_1 (by decide) ?_
  refine rAload_n dL_fight_2 rfl ?_
  refine rIload_n dL_fight_3 rfl ?_
  refine rIload_n dL_fight_4 rfl ?_
  refine rCallC (rRunV (M' := mX6_fight) (As := [.int x, .int y]) (rest := [.int (nI 0), .ref (ad V q)]) dL_fight_5 rfl mk_X6_fight mi_X6_fight ll_L_48 ⟨(Nat.le_of_ble_eq_true rfl), (Nat.le_of_ble_eq_true rfl)⟩ o (by rw [wS_at ho.1, cel_O ho.1 (by decide)]) rfl rfl (Nat.le_of_ble_eq_true rfl) (Nat.le_of_ble_eq_true rfl) (Nat.le_of_ble_eq_true rfl) (c_X6_fight ho hh hok hB hfl)) (fun E w hE => ?_) (fun v w hv => ?_)
  · obtain ⟨rfl, e0, k, e1, e2⟩ := hE
    rcases k with _ | k
    · have e3 : xIO = E := Option.some.inj e2
      subst e3
      refine ⟨[], [(0, 10, 17, 13)], (0, 10, 13, 20), xIO, rfl, ?_, ⟨by decide, by decide⟩, by decide, cl_L_20, ca_xIO, fun qq => ?_⟩
      · intro z hz
        cases hz
      · refine rAstore dL_fight_13 (by decide) ?_
        refine rIconst (v := nI 1) dL_fight_15 (by decide) ?_
        exact rIret dL_fight_16 rfl rfl (Nat.le_of_ble_eq_true rfl) (Nat.le_of_ble_eq_true rfl) ⟨nI 1, s, lo, rfl, rfl, by rw [e1], by rw [e0]; exact hh, hFr.refl, fun z => absurd (e1.symm.trans z) (Nat.succ_ne_zero _)⟩
    rcases k with _ | k
    · have e3 : xIA = E := Option.some.inj e2
      subst e3
      refine ⟨[(0, 10, 13, 20)], [], (0, 10, 17, 13), xIA, rfl, ?_, ⟨by decide, by decide⟩, by decide, cl_L_13, ca_xIA, fun qq => ?_⟩
      · intro z hz
        simp only [List.mem_cons, List.not_mem_nil, or_false] at hz
        subst hz
        · exact ⟨by decide, xIO, cl_L_20, by decide⟩
      · refine rAstore dL_fight_17 (by decide) ?_
        refine rIconst (v := nI 2) dL_fight_19 (by decide) ?_
        exact rIret dL_fight_20 rfl rfl (Nat.le_of_ble_eq_true rfl) (Nat.le_of_ble_eq_true rfl) ⟨nI 2, s, lo, rfl, rfl, by rw [e1], by rw [e0]; exact hh, hFr.refl, fun z => absurd (e1.symm.trans z) (Nat.succ_ne_zero _)⟩
    exact absurd e2 (by simp)
  · obtain ⟨s1, rfl, r, rfl, p0, p1, p2, p3⟩ := hv
    refine rI2l dL_fight_8 ?_
    refine sLast dL_fight_9 hq hq1 (vp_in_nI (by decide) (by decide)) ?_
    refine rGoto (tgt := 21) dL_fight_10 (by decide) ?_
    refine rIconst (v := nI 0) dL_fight_21 (by decide) ?_
    exact rIret dL_fight_22 rfl rfl (Nat.le_of_ble_eq_true rfl) (Nat.le_of_ble_eq_true rfl) ⟨nI 0, s1, _, rfl, rfl, by rw [p0], p2, p3, fun _ => by rw [upL_0, p1]⟩
set_option maxRecDepth 100000 in
set_option maxHeartbeats 4000000 in
theorem c_L_fightByRecord {G : gG} {V : wV} {lo : Nat → Int64} {o q : Nat} (ho : hallAt V o) (hq : shAt V q (11, 1, [])) (hq1 : ∀ k, (V.1 k).1 = 11 → k = q) {s : sgT} {h : hT} (hh : hallIs s o h) {B : Nat} (hok : hallOk B h) (hB : B ≤ 19000) (hfl : (gl G).stackTraces = false) {x y : Int32} : CW G V mL_fightByRecord cL_fightByRecord (rmD 12 10 60) [.ref (ad V o), .int x, .int y, .ref (ad V q)] s lo o (fFight h x y) := by
  refine CT.ofH (by decide) (by decide +kernel) (by intro v hv; simp only [List.mem_cons, List.not_mem_nil, or_false] at hv; rcases hv with rfl | rfl | rfl | rfl <;> rfl) (Nat.le_of_ble_eq_true rfl) ?_
  show RW G _ _ _ _ 0 [some (.ref (ad V o)), some (.int x), some (.int y), some (.ref (ad V q)), none] [] _ 0 0
  refine rAload_n dL_fightByRecord_0 rfl ?_
  refine rIconst (v := nI 0) dL_fightByRecord_1 (by decide) ?_
  refine rAload_n dL_fightByRecord_2 rfl ?_
  refine rIload_n dL_fightByRecord_3 rfl ?_
  refine rIload_n dL_fightByRecord_4 rfl ?_
  refine rCallC (rRunV (M' := mX6_fightByRecord) (As := [.int x, .int y]) (rest := [.int (nI 0), .ref (ad V q)]) dL_fightByRecord_5 rfl mk_X6_fightByRecord mi_X6_fightByRecord ll_L_51 ⟨(Nat.le_of_ble_eq_true rfl), (Nat.le_of_ble_eq_true rfl)⟩ o (by rw [wS_at ho.1, cel_O ho.1 (by decide)]) rfl rfl (Nat.le_of_ble_eq_true rfl) (Nat.le_of_ble_eq_true rfl) (Nat.le_of_ble_eq_true rfl) (c_X6_fightByRecord ho hh hok hB hfl)) (fun E w hE => ?_) (fun v w hv => ?_)
  · obtain ⟨rfl, e0, k, e1, e2⟩ := hE
    rcases k with _ | k
    · have e3 : xIO = E := Option.some.inj e2
      subst e3
      refine ⟨[], [(0, 10, 17, 13)], (0, 10, 13, 20), xIO, rfl, ?_, ⟨by decide, by decide⟩, by decide, cl_L_20, ca_xIO, fun qq => ?_⟩
      · intro z hz
        cases hz
      · refine rAstore dL_fightByRecord_13 (by decide) ?_
        refine rIconst (v := nI 1) dL_fightByRecord_15 (by decide) ?_
        exact rIret dL_fightByRecord_16 rfl rfl (Nat.le_of_ble_eq_true rfl) (Nat.le_of_ble_eq_true rfl) ⟨nI 1, s, lo, rfl, rfl, by rw [e1], by rw [e0]; exact hh, hFr.refl, fun z => absurd (e1.symm.trans z) (Nat.succ_ne_zero _)⟩
    rcases k with _ | k
    · have e3 : xIA = E := Option.some.inj e2
      subst e3
      refine ⟨[(0, 10, 13, 20)], [], (0, 10, 17, 13), xIA, rfl, ?_, ⟨by decide, by decide⟩, by decide, cl_L_13, ca_xIA, fun qq => ?_⟩
      · intro z hz
        simp only [List.mem_cons, List.not_mem_nil, or_false] at hz
        subst hz
        · exact ⟨by decide, xIO, cl_L_20, by decide⟩
      · refine rAstore dL_fightByRecord_17 (by decide) ?_
        refine rIconst (v := nI 2) dL_fightByRecord_19 (by decide) ?_
        exact rIret dL_fightByRecord_20 rfl rfl (Nat.le_of_ble_eq_true rfl) (Nat.le_of_ble_eq_true rfl) ⟨nI 2, s, lo, rfl, rfl, by rw [e1], by rw [e0]; exact hh, hFr.refl, fun z => absurd (e1.symm.trans z) (Nat.succ_ne_zero _)⟩
    exact absurd e2 (by simp)
  · obtain ⟨s1, rfl, r, rfl, p0, p1, p2, p3⟩ := hv
    refine rI2l dL_fightByRecord_8 ?_
    refine sLast dL_fightByRecord_9 hq hq1 (vp_in_nI (by decide) (by decide)) ?_
    refine rGoto (tgt := 21) dL_fightByRecord_10 (by decide) ?_
    refine rIconst (v := nI 0) dL_fightByRecord_21 (by decide) ?_
    exact rIret dL_fightByRecord_22 rfl rfl (Nat.le_of_ble_eq_true rfl) (Nat.le_of_ble_eq_true rfl) ⟨nI 0, s1, _, rfl, rfl, by rw [p0], p2, p3, fun _ => by rw [upL_0, p1]⟩
set_option maxRecDepth 100000 in
set_option maxHeartbeats 4000000 in
theorem c_L_gold {G : gG} {V : wV} {lo : Nat → Int64} {o q : Nat} (ho : hallAt V o) (hq : shAt V q (11, 1, [])) (hq1 : ∀ k, (V.1 k).1 = 11 → k = q) {s : sgT} {h : hT} (hh : hallIs s o h) {B : Nat} (hok : hallOk B h) (hB : B ≤ 19000) (hfl : (gl G).stackTraces = false) {x : Int32} : CW G V mL_gold cL_gold (rmD 12 10 60) [.ref (ad V o), .int x, .ref (ad V q)] s lo o ((fAsk (fun z => nI (pGold z))) h x) := by
  refine CT.ofH (by decide) (by decide +kernel) (by intro v hv; simp only [List.mem_cons, List.not_mem_nil, or_false] at hv; rcases hv with rfl | rfl | rfl <;> rfl) (Nat.le_of_ble_eq_true rfl) ?_
  show RW G _ _ _ _ 0 [some (.ref (ad V o)), some (.int x), some (.ref (ad V q)), none] [] _ 0 0
  refine rAload_n dL_gold_0 rfl ?_
  refine rIconst (v := nI 0) dL_gold_1 (by decide) ?_
  refine rAload_n dL_gold_2 rfl ?_
  refine rIload_n dL_gold_3 rfl ?_
  refine rCallC (rRunV (M' := mX6_gold) (As := [.int x]) (rest := [.int (nI 0), .ref (ad V q)]) dL_gold_4 rfl mk_X6_gold mi_X6_gold ll_L_54 ⟨(Nat.le_of_ble_eq_true rfl), (Nat.le_of_ble_eq_true rfl)⟩ o (by rw [wS_at ho.1, cel_O ho.1 (by decide)]) rfl rfl (Nat.le_of_ble_eq_true rfl) (Nat.le_of_ble_eq_true rfl) (Nat.le_of_ble_eq_true rfl) (c_X6_gold ho hh hfl)) (fun E w hE => ?_) (fun v w hv => ?_)
  · obtain ⟨rfl, e0, k, e1, e2⟩ := hE
    rcases k with _ | k
    · have e3 : xIO = E := Option.some.inj e2
      subst e3
      refine ⟨[], [], (0, 9, 12, 20), xIO, rfl, ?_, ⟨by decide, by decide⟩, by decide, cl_L_20, ca_xIO, fun qq => ?_⟩
      · intro z hz
        cases hz
      · refine rAstore_n dL_gold_12 (by decide) ?_
        refine rIconst (v := nI 1) dL_gold_13 (by decide) ?_
        exact rIret dL_gold_14 rfl rfl (Nat.le_of_ble_eq_true rfl) (Nat.le_of_ble_eq_true rfl) ⟨nI 1, s, lo, rfl, rfl, by rw [e1], by rw [e0]; exact hh, hFr.refl, fun z => absurd (e1.symm.trans z) (Nat.succ_ne_zero _)⟩
    exact absurd e2 (by simp)
  · obtain ⟨s1, rfl, r, rfl, p0, p1, p2, p3⟩ := hv
    refine rI2l dL_gold_7 ?_
    refine sLast dL_gold_8 hq hq1 (vp_in_nI (by decide) (by decide)) ?_
    refine rGoto (tgt := 15) dL_gold_9 (by decide) ?_
    refine rIconst (v := nI 0) dL_gold_15 (by decide) ?_
    exact rIret dL_gold_16 rfl rfl (Nat.le_of_ble_eq_true rfl) (Nat.le_of_ble_eq_true rfl) ⟨nI 0, s1, _, rfl, rfl, by rw [p0], p2, p3, fun _ => by rw [upL_0, p1]⟩
set_option maxRecDepth 100000 in
set_option maxHeartbeats 4000000 in
theorem c_L_health {G : gG} {V : wV} {lo : Nat → Int64} {o q : Nat} (ho : hallAt V o) (hq : shAt V q (11, 1, [])) (hq1 : ∀ k, (V.1 k).1 = 11 → k = q) {s : sgT} {h : hT} (hh : hallIs s o h) {B : Nat} (hok : hallOk B h) (hB : B ≤ 19000) (hfl : (gl G).stackTraces = false) {x : Int32} : CW G V mL_health cL_health (rmD 12 10 60) [.ref (ad V o), .int x, .ref (ad V q)] s lo o ((fAsk (fun z => nI (pHth z))) h x) := by
  refine CT.ofH (by decide) (by decide +kernel) (by intro v hv; simp only [List.mem_cons, List.not_mem_nil, or_false] at hv; rcases hv with rfl | rfl | rfl <;> rfl) (Nat.le_of_ble_eq_true rfl) ?_
  show RW G _ _ _ _ 0 [some (.ref (ad V o)), some (.int x), some (.ref (ad V q)), none] [] _ 0 0
  refine rAload_n dL_health_0 rfl ?_
  refine rIconst (v := nI 0) dL_health_1 (by decide) ?_
  refine rAload_n dL_health_2 rfl ?_
  refine rIload_n dL_health_3 rfl ?_
  refine rCallC (rRunV (M' := mX6_health) (As := [.int x]) (rest := [.int (nI 0), .ref (ad V q)]) dL_health_4 rfl mk_X6_health mi_X6_health ll_L_57 ⟨(Nat.le_of_ble_eq_true rfl), (Nat.le_of_ble_eq_true rfl)⟩ o (by rw [wS_at ho.1, cel_O ho.1 (by decide)]) rfl rfl (Nat.le_of_ble_eq_true rfl) (Nat.le_of_ble_eq_true rfl) (Nat.le_of_ble_eq_true rfl) (c_X6_health ho hh hfl)) (fun E w hE => ?_) (fun v w hv => ?_)
  · obtain ⟨rfl, e0, k, e1, e2⟩ := hE
    rcases k with _ | k
    · have e3 : xIO = E := Option.some.inj e2
      subst e3
      refine ⟨[], [], (0, 9, 12, 20), xIO, rfl, ?_, ⟨by decide, by decide⟩, by decide, cl_L_20, ca_xIO, fun qq => ?_⟩
      · intro z hz
        cases hz
      · refine rAstore_n dL_health_12 (by decide) ?_
        refine rIconst (v := nI 1) dL_health_13 (by decide) ?_
        exact rIret dL_health_14 rfl rfl (Nat.le_of_ble_eq_true rfl) (Nat.le_of_ble_eq_true rfl) ⟨nI 1, s, lo, rfl, rfl, by rw [e1], by rw [e0]; exact hh, hFr.refl, fun z => absurd (e1.symm.trans z) (Nat.succ_ne_zero _)⟩
    exact absurd e2 (by simp)
  · obtain ⟨s1, rfl, r, rfl, p0, p1, p2, p3⟩ := hv
    refine rI2l dL_health_7 ?_
    refine sLast dL_health_8 hq hq1 (vp_in_nI (by decide) (by decide)) ?_
    refine rGoto (tgt := 15) dL_health_9 (by decide) ?_
    refine rIconst (v := nI 0) dL_health_15 (by decide) ?_
    exact rIret dL_health_16 rfl rfl (Nat.le_of_ble_eq_true rfl) (Nat.le_of_ble_eq_true rfl) ⟨nI 0, s1, _, rfl, rfl, by rw [p0], p2, p3, fun _ => by rw [upL_0, p1]⟩
set_option maxRecDepth 100000 in
set_option maxHeartbeats 4000000 in
theorem c_L_streak {G : gG} {V : wV} {lo : Nat → Int64} {o q : Nat} (ho : hallAt V o) (hq : shAt V q (11, 1, [])) (hq1 : ∀ k, (V.1 k).1 = 11 → k = q) {s : sgT} {h : hT} (hh : hallIs s o h) {B : Nat} (hok : hallOk B h) (hB : B ≤ 19000) (hfl : (gl G).stackTraces = false) {x : Int32} : CW G V mL_streak cL_streak (rmD 12 10 60) [.ref (ad V o), .int x, .ref (ad V q)] s lo o ((fAsk (fun z => pStk z)) h x) := by
  refine CT.ofH (by decide) (by decide +kernel) (by intro v hv; simp only [List.mem_cons, List.not_mem_nil, or_false] at hv; rcases hv with rfl | rfl | rfl <;> rfl) (Nat.le_of_ble_eq_true rfl) ?_
  show RW G _ _ _ _ 0 [some (.ref (ad V o)), some (.int x), some (.ref (ad V q)), none] [] _ 0 0
  refine rAload_n dL_streak_0 rfl ?_
  refine rIconst (v := nI 0) dL_streak_1 (by decide) ?_
  refine rAload_n dL_streak_2 rfl ?_
  refine rIload_n dL_streak_3 rfl ?_
  refine rCallC (rRunV (M' := mX6_streak) (As := [.int x]) (rest := [.int (nI 0), .ref (ad V q)]) dL_streak_4 rfl mk_X6_streak mi_X6_streak ll_L_60 ⟨(Nat.le_of_ble_eq_true rfl), (Nat.le_of_ble_eq_true rfl)⟩ o (by rw [wS_at ho.1, cel_O ho.1 (by decide)]) rfl rfl (Nat.le_of_ble_eq_true rfl) (Nat.le_of_ble_eq_true rfl) (Nat.le_of_ble_eq_true rfl) (c_X6_streak ho hh hfl)) (fun E w hE => ?_) (fun v w hv => ?_)
  · obtain ⟨rfl, e0, k, e1, e2⟩ := hE
    rcases k with _ | k
    · have e3 : xIO = E := Option.some.inj e2
      subst e3
      refine ⟨[], [], (0, 9, 12, 20), xIO, rfl, ?_, ⟨by decide, by decide⟩, by decide, cl_L_20, ca_xIO, fun qq => ?_⟩
      · intro z hz
        cases hz
      · refine rAstore_n dL_streak_12 (by decide) ?_
        refine rIconst (v := nI 1) dL_streak_13 (by decide) ?_
        exact rIret dL_streak_14 rfl rfl (Nat.le_of_ble_eq_true rfl) (Nat.le_of_ble_eq_true rfl) ⟨nI 1, s, lo, rfl, rfl, by rw [e1], by rw [e0]; exact hh, hFr.refl, fun z => absurd (e1.symm.trans z) (Nat.succ_ne_zero _)⟩
    exact absurd e2 (by simp)
  · obtain ⟨s1, rfl, r, rfl, p0, p1, p2, p3⟩ := hv
    refine rI2l dL_streak_7 ?_
    refine sLast dL_streak_8 hq hq1 (vp_in_nI (by decide) (by decide)) ?_
    refine rGoto (tgt := 15) dL_streak_9 (by decide) ?_
    refine rIconst (v := nI 0) dL_streak_15 (by decide) ?_
    exact rIret dL_streak_16 rfl rfl (Nat.le_of_ble_eq_true rfl) (Nat.le_of_ble_eq_true rfl) ⟨nI 0, s1, _, rfl, rfl, by rw [p0], p2, p3, fun _ => by rw [upL_0, p1]⟩
set_option maxRecDepth 100000 in
set_option maxHeartbeats 4000000 in
theorem c_L_shopAt {G : gG} {V : wV} {lo : Nat → Int64} {o q : Nat} (ho : hallAt V o) (hq : shAt V q (11, 1, [])) (hq1 : ∀ k, (V.1 k).1 = 11 → k = q) {s : sgT} {h : hT} (hh : hallIs s o h) {B : Nat} (hok : hallOk B h) (hB : B ≤ 19000) (hfl : (gl G).stackTraces = false) {x y : Int32} : CW G V mL_shopAt cL_shopAt (rmD 12 10 60) [.ref (ad V o), .int x, .int y, .ref (ad V q)] s lo o (fShop h x y) := by
  refine CT.ofH (by decide) (by decide +kernel) (by intro v hv; simp only [List.mem_cons, List.not_mem_nil, or_false] at hv; rcases hv with rfl | rfl | rfl | rfl <;> rfl) (Nat.le_of_ble_eq_true rfl) ?_
  show RW G _ _ _ _ 0 [some (.ref (ad V o)), some (.int x), some (.int y), some (.ref (ad V q)), none] [] _ 0 0
  refine rAload_n dL_shopAt_0 rfl ?_
  refine rIconst (v := nI 0) dL_shopAt_1 (by decide) ?_
  refine rAload_n dL_shopAt_2 rfl ?_
  refine rIload_n dL_shopAt_3 rfl ?_
  refine rIload_n dL_shopAt_4 rfl ?_
  refine rCallC (rRunV (M' := mX6_shopAt) (As := [.int x, .int y]) (rest := [.int (nI 0), .ref (ad V q)]) dL_shopAt_5 rfl mk_X6_shopAt mi_X6_shopAt ll_L_63 ⟨(Nat.le_of_ble_eq_true rfl), (Nat.le_of_ble_eq_true rfl)⟩ o (by rw [wS_at ho.1, cel_O ho.1 (by decide)]) rfl rfl (Nat.le_of_ble_eq_true rfl) (Nat.le_of_ble_eq_true rfl) (Nat.le_of_ble_eq_true rfl) (c_X6_shopAt ho hh hfl)) (fun E w hE => ?_) (fun v w hv => ?_)
  · obtain ⟨rfl, e0, k, e1, e2⟩ := hE
    rcases k with _ | k
    · have e3 : xIO = E := Option.some.inj e2
      subst e3
      refine ⟨[], [], (0, 10, 13, 20), xIO, rfl, ?_, ⟨by decide, by decide⟩, by decide, cl_L_20, ca_xIO, fun qq => ?_⟩
      · intro z hz
        cases hz
      · refine rAstore dL_shopAt_13 (by decide) ?_
        refine rIconst (v := nI 1) dL_shopAt_15 (by decide) ?_
        exact rIret dL_shopAt_16 rfl rfl (Nat.le_of_ble_eq_true rfl) (Nat.le_of_ble_eq_true rfl) ⟨nI 1, s, lo, rfl, rfl, by rw [e1], by rw [e0]; exact hh, hFr.refl, fun z => absurd (e1.symm.trans z) (Nat.succ_ne_zero _)⟩
    exact absurd e2 (by simp)
  · obtain ⟨s1, rfl, r, rfl, p0, p1, p2, p3⟩ := hv
    refine rI2l dL_shopAt_8 ?_
    refine sLast dL_shopAt_9 hq hq1 (vp_in_nI (by decide) (by decide)) ?_
    refine rGoto (tgt := 17) dL_shopAt_10 (by decide) ?_
    refine rIconst (v := nI 0) dL_shopAt_17 (by decide) ?_
    exact rIret dL_shopAt_18 rfl rfl (Nat.le_of_ble_eq_true rfl) (Nat.le_of_ble_eq_true rfl) ⟨nI 0, s1, _, rfl, rfl, by rw [p0], p2, p3, fun _ => by rw [upL_0, p1]⟩
set_option maxRecDepth 100000 in
set_option maxHeartbeats 4000000 in
theorem c_L_benchAt {G : gG} {V : wV} {lo : Nat → Int64} {o q : Nat} (ho : hallAt V o) (hq : shAt V q (11, 1, [])) (hq1 : ∀ k, (V.1 k).1 = 11 → k = q) {s : sgT} {h : hT} (hh : hallIs s o h) {B : Nat} (hok : hallOk B h) (hB : B ≤ 19000) (hfl : (gl G).stackTraces = false) {x y : Int32} : CW G V mL_benchAt cL_benchAt (rmD 12 10 60) [.ref (ad V o), .int x, .int y, .ref (ad V q)] s lo o (fBenA h x y) := by
  refine CT.ofH (by decide) (by decide +kernel) (by intro v hv; simp only [List.mem_cons, List.not_mem_nil, or_false] at hv; rcases hv with rfl | rfl | rfl | rfl <;> rfl) (Nat.le_of_ble_eq_true rfl) ?_
  show RW G _ _ _ _ 0 [some (.ref (ad V o)), some (.int x), some (.int y), some (.ref (ad V q)), none] [] _ 0 0
  refine rAload_n dL_benchAt_0 rfl ?_
  refine rIconst (v := nI 0) dL_benchAt_1 (by decide) ?_
  refine rAload_n dL_benchAt_2 rfl ?_
  refine rIload_n dL_benchAt_3 rfl ?_
  refine rIload_n dL_benchAt_4 rfl ?_
  refine rCallC (rRunV (M' := mX6_benchAt) (As := [.int x, .int y]) (rest := [.int (nI 0), .ref (ad V q)]) dL_benchAt_5 rfl mk_X6_benchAt mi_X6_benchAt ll_L_66 ⟨(Nat.le_of_ble_eq_true rfl), (Nat.le_of_ble_eq_true rfl)⟩ o (by rw [wS_at ho.1, cel_O ho.1 (by decide)]) rfl rfl (Nat.le_of_ble_eq_true rfl) (Nat.le_of_ble_eq_true rfl) (Nat.le_of_ble_eq_true rfl) (c_X6_benchAt ho hh hok hB hfl)) (fun E w hE => ?_) (fun v w hv => ?_)
  · obtain ⟨rfl, e0, k, e1, e2⟩ := hE
    rcases k with _ | k
    · have e3 : xIO = E := Option.some.inj e2
      subst e3
      refine ⟨[], [], (0, 10, 13, 20), xIO, rfl, ?_, ⟨by decide, by decide⟩, by decide, cl_L_20, ca_xIO, fun qq => ?_⟩
      · intro z hz
        cases hz
      · refine rAstore dL_benchAt_13 (by decide) ?_
        refine rIconst (v := nI 1) dL_benchAt_15 (by decide) ?_
        exact rIret dL_benchAt_16 rfl rfl (Nat.le_of_ble_eq_true rfl) (Nat.le_of_ble_eq_true rfl) ⟨nI 1, s, lo, rfl, rfl, by rw [e1], by rw [e0]; exact hh, hFr.refl, fun z => absurd (e1.symm.trans z) (Nat.succ_ne_zero _)⟩
    exact absurd e2 (by simp)
  · obtain ⟨s1, rfl, r, rfl, p0, p1, p2, p3⟩ := hv
    refine rI2l dL_benchAt_8 ?_
    refine sLast dL_benchAt_9 hq hq1 (vp_in_nI (by decide) (by decide)) ?_
    refine rGoto (tgt := 17) dL_benchAt_10 (by decide) ?_
    refine rIconst (v := nI 0) dL_benchAt_17 (by decide) ?_
    exact rIret dL_benchAt_18 rfl rfl (Nat.le_of_ble_eq_true rfl) (Nat.le_of_ble_eq_true rfl) ⟨nI 0, s1, _, rfl, rfl, by rw [p0], p2, p3, fun _ => by rw [upL_0, p1]⟩
set_option maxRecDepth 100000 in
set_option maxHeartbeats 4000000 in
theorem c_L_boardAt {G : gG} {V : wV} {lo : Nat → Int64} {o q : Nat} (ho : hallAt V o) (hq : shAt V q (11, 1, [])) (hq1 : ∀ k, (V.1 k).1 = 11 → k = q) {s : sgT} {h : hT} (hh : hallIs s o h) {B : Nat} (hok : hallOk B h) (hB : B ≤ 19000) (hfl : (gl G).stackTraces = false) {x y : Int32} : CW G V mL_boardAt cL_boardAt (rmD 12 10 60) [.ref (ad V o), .int x, .int y, .ref (ad V q)] s lo o (fBrdA h x y) := by
  refine CT.ofH (by decide) (by decide +kernel) (by intro v hv; simp only [List.mem_cons, List.not_mem_nil, or_false] at hv; rcases hv with rfl | rfl | rfl | rfl <;> rfl) (Nat.le_of_ble_eq_true rfl) ?_
  show RW G _ _ _ _ 0 [some (.ref (ad V o)), some (.int x), some (.int y), some (.ref (ad V q)), none] [] _ 0 0
  refine rAload_n dL_boardAt_0 rfl ?_
  refine rIconst (v := nI 0) dL_boardAt_1 (by decide) ?_
  refine rAload_n dL_boardAt_2 rfl ?_
  refine rIload_n dL_boardAt_3 rfl ?_
  refine rIload_n dL_boardAt_4 rfl ?_
  refine rCallC (rRunV (M' := mX6_boardAt) (As := [.int x, .int y]) (rest := [.int (nI 0), .ref (ad V q)]) dL_boardAt_5 rfl mk_X6_boardAt mi_X6_boardAt ll_L_69 ⟨(Nat.le_of_ble_eq_true rfl), (Nat.le_of_ble_eq_true rfl)⟩ o (by rw [wS_at ho.1, cel_O ho.1 (by decide)]) rfl rfl (Nat.le_of_ble_eq_true rfl) (Nat.le_of_ble_eq_true rfl) (Nat.le_of_ble_eq_true rfl) (c_X6_boardAt ho hh hok hB hfl)) (fun E w hE => ?_) (fun v w hv => ?_)
  · obtain ⟨rfl, e0, k, e1, e2⟩ := hE
    rcases k with _ | k
    · have e3 : xIO = E := Option.some.inj e2
      subst e3
      refine ⟨[], [], (0, 10, 13, 20), xIO, rfl, ?_, ⟨by decide, by decide⟩, by decide, cl_L_20, ca_xIO, fun qq => ?_⟩
      · intro z hz
        cases hz
      · refine rAstore dL_boardAt_13 (by decide) ?_
        refine rIconst (v := nI 1) dL_boardAt_15 (by decide) ?_
        exact rIret dL_boardAt_16 rfl rfl (Nat.le_of_ble_eq_true rfl) (Nat.le_of_ble_eq_true rfl) ⟨nI 1, s, lo, rfl, rfl, by rw [e1], by rw [e0]; exact hh, hFr.refl, fun z => absurd (e1.symm.trans z) (Nat.succ_ne_zero _)⟩
    exact absurd e2 (by simp)
  · obtain ⟨s1, rfl, r, rfl, p0, p1, p2, p3⟩ := hv
    refine rI2l dL_boardAt_8 ?_
    refine sLast dL_boardAt_9 hq hq1 (vp_in_nI (by decide) (by decide)) ?_
    refine rGoto (tgt := 17) dL_boardAt_10 (by decide) ?_
    refine rIconst (v := nI 0) dL_boardAt_17 (by decide) ?_
    exact rIret dL_boardAt_18 rfl rfl (Nat.le_of_ble_eq_true rfl) (Nat.le_of_ble_eq_true rfl) ⟨nI 0, s1, _, rfl, rfl, by rw [p0], p2, p3, fun _ => by rw [upL_0, p1]⟩
set_option maxRecDepth 100000 in
set_option maxHeartbeats 4000000 in
theorem c_L_blow {G : gG} {V : wV} {lo : Nat → Int64} {o q : Nat} (ho : hallAt V o) (hq : shAt V q (11, 1, [])) (hq1 : ∀ k, (V.1 k).1 = 11 → k = q) {s : sgT} {h : hT} (hh : hallIs s o h) {B : Nat} (hok : hallOk B h) (hB : B ≤ 19000) (hfl : (gl G).stackTraces = false) {x y : Int32} : CW G V mL_blow cL_blow (rmD 12 10 60) [.ref (ad V o), .int x, .int y, .ref (ad V q)] s lo o (fBlow h x y) := by
  refine CT.ofH (by decide) (by decide +kernel) (by intro v hv; simp only [List.mem_cons, List.not_mem_nil, or_false] at hv; rcases hv with rfl | rfl | rfl | rfl <;> rfl) (Nat.le_of_ble_eq_true rfl) ?_
  show RW G _ _ _ _ 0 [some (.ref (ad V o)), some (.int x), some (.int y), some (.ref (ad V q)), none] [] _ 0 0
  refine rAload_n dL_blow_0 rfl ?_
  refine rIconst (v := nI 0) dL_blow_1 (by decide) ?_
  refine rAload_n dL_blow_2 rfl ?_
  refine rIload_n dL_blow_3 rfl ?_
  refine rIload_n dL_blow_4 rfl ?_
  refine rCallC (rRunV (M' := mX6_blow) (As := [.int x, .int y]) (rest := [.int (nI 0), .ref (ad V q)]) dL_blow_5 rfl mk_X6_blow mi_X6_blow ll_L_72 ⟨(Nat.le_of_ble_eq_true rfl), (Nat.le_of_ble_eq_true rfl)⟩ o (by rw [wS_at ho.1, cel_O ho.1 (by decide)]) rfl rfl (Nat.le_of_ble_eq_true rfl) (Nat.le_of_ble_eq_true rfl) (Nat.le_of_ble_eq_true rfl) (c_X6_blow ho hh hok hB hfl)) (fun E w hE => ?_) (fun v w hv => ?_)
  · obtain ⟨rfl, e0, k, e1, e2⟩ := hE
    rcases k with _ | k
    · have e3 : xIO = E := Option.some.inj e2
      subst e3
      refine ⟨[], [], (0, 10, 13, 20), xIO, rfl, ?_, ⟨by decide, by decide⟩, by decide, cl_L_20, ca_xIO, fun qq => ?_⟩
      · intro z hz
        cases hz
      · refine rAstore dL_blow_13 (by decide) ?_
        refine rIconst (v := nI 1) dL_blow_15 (by decide) ?_
        exact rIret dL_blow_16 rfl rfl (Nat.le_of_ble_eq_true rfl) (Nat.le_of_ble_eq_true rfl) ⟨nI 1, s, lo, rfl, rfl, by rw [e1], by rw [e0]; exact hh, hFr.refl, fun z => absurd (e1.symm.trans z) (Nat.succ_ne_zero _)⟩
    exact absurd e2 (by simp)
  · obtain ⟨s1, rfl, r, rfl, p0, p1, p2, p3⟩ := hv
    refine rI2l dL_blow_8 ?_
    refine sLast dL_blow_9 hq hq1 (vp_in_nI (by decide) (by decide)) ?_
    refine rGoto (tgt := 17) dL_blow_10 (by decide) ?_
    refine rIconst (v := nI 0) dL_blow_17 (by decide) ?_
    exact rIret dL_blow_18 rfl rfl (Nat.le_of_ble_eq_true rfl) (Nat.le_of_ble_eq_true rfl) ⟨nI 0, s1, _, rfl, rfl, by rw [p0], p2, p3, fun _ => by rw [upL_0, p1]⟩
set_option maxRecDepth 100000 in
set_option maxHeartbeats 4000000 in
theorem c_L_pool {G : gG} {V : wV} {lo : Nat → Int64} {o q : Nat} (ho : hallAt V o) (hq : shAt V q (11, 1, [])) (hq1 : ∀ k, (V.1 k).1 = 11 → k = q) {s : sgT} {h : hT} (hh : hallIs s o h) {B : Nat} (hok : hallOk B h) (hB : B ≤ 19000) (hfl : (gl G).stackTraces = false) {x : Int32} : CW G V mL_pool cL_pool (rmD 12 10 60) [.ref (ad V o), .int x, .ref (ad V q)] s lo o (fPool h x) := by
  refine CT.ofH (by decide) (by decide +kernel) (by intro v hv; simp only [List.mem_cons, List.not_mem_nil, or_false] at hv; rcases hv with rfl | rfl | rfl <;> rfl) (Nat.le_of_ble_eq_true rfl) ?_
  show RW G _ _ _ _ 0 [some (.ref (ad V o)), some (.int x), some (.ref (ad V q)), none] [] _ 0 0
  refine rAload_n dL_pool_0 rfl ?_
  refine rIconst (v := nI 0) dL_pool_1 (by decide) ?_
  refine rAload_n dL_pool_2 rfl ?_
  refine rIload_n dL_pool_3 rfl ?_
  refine rCallC (rRunV (M' := mX6_pool) (As := [.int x]) (rest := [.int (nI 0), .ref (ad V q)]) dL_pool_4 rfl mk_X6_pool mi_X6_pool ll_L_75 ⟨(Nat.le_of_ble_eq_true rfl), (Nat.le_of_ble_eq_true rfl)⟩ o (by rw [wS_at ho.1, cel_O ho.1 (by decide)]) rfl rfl (Nat.le_of_ble_eq_true rfl) (Nat.le_of_ble_eq_true rfl) (Nat.le_of_ble_eq_true rfl) (c_X6_pool ho hh hfl)) (fun E w hE => ?_) (fun v w hv => ?_)
  · obtain ⟨rfl, e0, k, e1, e2⟩ := hE
    rcases k with _ | k
    · have e3 : xIO = E := Option.some.inj e2
      subst e3
      refine ⟨[], [], (0, 9, 12, 20), xIO, rfl, ?_, ⟨by decide, by decide⟩, by decide, cl_L_20, ca_xIO, fun qq => ?_⟩
      · intro z hz
        cases hz
      · refine rAstore_n dL_pool_12 (by decide) ?_
        refine rIconst (v := nI 1) dL_pool_13 (by decide) ?_
        exact rIret dL_pool_14 rfl rfl (Nat.le_of_ble_eq_true rfl) (Nat.le_of_ble_eq_true rfl) ⟨nI 1, s, lo, rfl, rfl, by rw [e1], by rw [e0]; exact hh, hFr.refl, fun z => absurd (e1.symm.trans z) (Nat.succ_ne_zero _)⟩
    exact absurd e2 (by simp)
  · obtain ⟨s1, rfl, r, rfl, p0, p1, p2, p3⟩ := hv
    refine rI2l dL_pool_7 ?_
    refine sLast dL_pool_8 hq hq1 (vp_in_nI (by decide) (by decide)) ?_
    refine rGoto (tgt := 15) dL_pool_9 (by decide) ?_
    refine rIconst (v := nI 0) dL_pool_15 (by decide) ?_
    exact rIret dL_pool_16 rfl rfl (Nat.le_of_ble_eq_true rfl) (Nat.le_of_ble_eq_true rfl) ⟨nI 0, s1, _, rfl, rfl, by rw [p0], p2, p3, fun _ => by rw [upL_0, p1]⟩
set_option maxRecDepth 100000 in
set_option maxHeartbeats 4000000 in
theorem c_L_out {G : gG} {V : wV} {lo : Nat → Int64} {o q : Nat} (ho : hallAt V o) (hq : shAt V q (11, 1, [])) (hq1 : ∀ k, (V.1 k).1 = 11 → k = q) {s : sgT} {h : hT} (hh : hallIs s o h) {B : Nat} (hok : hallOk B h) (hB : B ≤ 19000) (hfl : (gl G).stackTraces = false) {x : Int32} : CW G V mL_out cL_out (rmD 12 10 60) [.ref (ad V o), .int x, .ref (ad V q)] s lo o (fOut h x) := by
  refine CT.ofH (by decide) (by decide +kernel) (by intro v hv; simp only [List.mem_cons, List.not_mem_nil, or_false] at hv; rcases hv with rfl | rfl | rfl <;> rfl) (Nat.le_of_ble_eq_true rfl) ?_
  show RW G _ _ _ _ 0 [some (.ref (ad V o)), some (.int x), some (.ref (ad V q)), none] [] _ 0 0
  refine rAload_n dL_out_0 rfl ?_
  refine rIconst (v := nI 0) dL_out_1 (by decide) ?_
  refine rAload_n dL_out_2 rfl ?_
  refine rIload_n dL_out_3 rfl ?_
  refine rCallC (rRunV (M' := mX6_out) (As := [.int x]) (rest := [.int (nI 0), .ref (ad V q)]) dL_out_4 rfl mk_X6_out mi_X6_out ll_L_78 ⟨(Nat.le_of_ble_eq_true rfl), (Nat.le_of_ble_eq_true rfl)⟩ o (by rw [wS_at ho.1, cel_O ho.1 (by decide)]) rfl rfl (Nat.le_of_ble_eq_true rfl) (Nat.le_of_ble_eq_true rfl) (Nat.le_of_ble_eq_true rfl) (c_X6_out ho hh hok hB hfl)) (fun E w hE => ?_) (fun v w hv => ?_)
  · obtain ⟨rfl, e0, k, e1, e2⟩ := hE
    rcases k with _ | k
    · have e3 : xIO = E := Option.some.inj e2
      subst e3
      refine ⟨[], [], (0, 9, 12, 20), xIO, rfl, ?_, ⟨by decide, by decide⟩, by decide, cl_L_20, ca_xIO, fun qq => ?_⟩
      · intro z hz
        cases hz
      · refine rAstore_n dL_out_12 (by decide) ?_
        refine rIconst (v := nI 1) dL_out_13 (by decide) ?_
        exact rIret dL_out_14 rfl rfl (Nat.le_of_ble_eq_true rfl) (Nat.le_of_ble_eq_true rfl) ⟨nI 1, s, lo, rfl, rfl, by rw [e1], by rw [e0]; exact hh, hFr.refl, fun z => absurd (e1.symm.trans z) (Nat.succ_ne_zero _)⟩
    exact absurd e2 (by simp)
  · obtain ⟨s1, rfl, r, rfl, p0, p1, p2, p3⟩ := hv
    refine rI2l dL_out_7 ?_
    refine sLast dL_out_8 hq hq1 (vp_in_nI (by decide) (by decide)) ?_
    refine rGoto (tgt := 15) dL_out_9 (by decide) ?_
    refine rIconst (v := nI 0) dL_out_15 (by decide) ?_
    exact rIret dL_out_16 rfl rfl (Nat.le_of_ble_eq_true rfl) (Nat.le_of_ble_eq_true rfl) ⟨nI 0, s1, _, rfl, rfl, by rw [p0], p2, p3, fun _ => by rw [upL_0, p1]⟩
