/-! a call by its number, with its throws caught; what happens by a cell (by program) -/
theorem cl_L_41 : Cond.classLink RL 41 xIO ∈ gWds := gMem (i := 184) (by decide +kernel) (by rfl)
theorem cl_L_44 : Cond.classLink RL 44 xIA ∈ gWds := gMem (i := 185) (by decide +kernel) (by rfl)
theorem cl_L_46 : Cond.classLink RL 46 xIS ∈ gWds := gMem (i := 186) (by decide +kernel) (by rfl)
theorem cl_L_48 : Cond.classLink RL 48 xNS ∈ gWds := gMem (i := 187) (by decide +kernel) (by rfl)
theorem ca_xIA : Cond.castable xIA xIA ∈ tables_1 := List.mem_of_getElem? (i := 194) (by decide +kernel)
theorem ca_xIS : Cond.castable xIS xIS ∈ tables_1 := List.mem_of_getElem? (i := 267) (by decide +kernel)
theorem ca_xIO : Cond.castable xIO xIO ∈ tables_1 := List.mem_of_getElem? (i := 291) (by decide +kernel)
theorem ca_xNS : Cond.castable xNS xNS ∈ tables_1 := List.mem_of_getElem? (i := 349) (by decide +kernel)
theorem tog_01 {h : hT} {x r : Int32} (e : r = (fToggle h x).2.1) (e0 : (fToggle h x).1 = 0) : r = 0 ∨ r = nI 1 := by
  unfold fToggle at e e0
  split at e
  · rename_i hc
    rw [hc] at e0
    exact absurd e0 (Nat.succ_ne_zero _)
  · rw [e]
    show bI _ = 0 ∨ bI _ = nI 1
    cases pLck _
    · exact Or.inr rfl
    · exact Or.inl rfl

set_option maxRecDepth 100000 in
set_option maxHeartbeats 4000000 in
theorem c_L_does_0 {G : gG} {V : wV} {lo : Nat → Int64} {o : Nat} (ho : hallAt V o) {s : sgT} {h : hT} (hh : hallIs s o h) (hg : good h) (hfl : (gl G).stackTraces = false) {x y : Int32} : CSi G V mL_does cL_does (rmD 10 10 60) [.ref (ad V o), .int (nI 0), .int x, .int y] s lo (fun v s' => aPost o s (fDo h 0 x y).2.2 (aI (fDo h 0 x y)) v s') (fun _ => False) := by
  refine CT.ofH (by decide) (by decide +kernel) (by intro v hv; simp only [List.mem_cons, List.not_mem_nil, or_false] at hv; rcases hv with rfl | rfl | rfl | rfl <;> rfl) (Nat.le_of_ble_eq_true rfl) ?_
  show RW G _ _ _ _ 0 [some (.ref (ad V o)), some (.int (nI 0)), some (.int x), some (.int y), none] [] _ _ _
  refine rIload_n dL_does_0 rfl ?_
  refine r_if_ne (tgt := 12) dL_does_1 (by decide) (fun c => absurd (by decide) c) (fun c => ?_)
  refine rAload_n dL_does_4 rfl ?_
  refine rIload_n dL_does_5 rfl ?_
  refine rCallC (rRunV (M' := mX6_tell) (As := [.int x]) (rest := []) dL_does_6 rfl mk_X6_tell mi_X6_tell ll_L_8 ⟨(Nat.le_of_ble_eq_true rfl), (Nat.le_of_ble_eq_true rfl)⟩ o (by rw [wS_at ho.1, cel_O ho.1 (by decide)]) rfl rfl (Nat.le_of_ble_eq_true rfl) (Nat.le_of_ble_eq_true rfl) (Nat.le_of_ble_eq_true rfl) (c_X6_tell ho hh hg.1 (by decide) hfl)) (fun E w hE => ?_) (fun v w hv => ?_)
  · obtain ⟨rfl, e0, k, e1, e2⟩ := hE
    have e9 : aI (fTell h x) = -99999 := if_neg (by rw [e1]; exact Nat.succ_ne_zero _)
    rcases k with _ | k
    · have e3 : xIA = E := Option.some.inj e2
      subst e3
      refine ⟨[(0, 121, 122, 41)], [(0, 121, 132, 46), (0, 121, 137, 48)], (0, 121, 127, 44), xIA, rfl, ?_, ⟨by decide, by decide⟩, by decide, cl_L_44, ca_xIA, fun qq => ?_⟩
      · intro z hz
        simp only [List.mem_cons, List.not_mem_nil, or_false] at hz
        subst hz
        · exact ⟨by decide, xIO, cl_L_41, by decide⟩
      · refine rAstore dL_does_127 (by decide) ?_
        refine rLdc (v := -99999) dL_does_129 kc_L_43 ?_
        exact rIret dL_does_131 rfl rfl (Nat.le_of_ble_eq_true rfl) (Nat.le_of_ble_eq_true rfl) ⟨s, rfl, _, rfl, e9.symm, by rw [show (fDo h 0 x y).2.2 = h from e0]; exact hh, hFr.refl⟩
    rcases k with _ | k
    · have e3 : xIS = E := Option.some.inj e2
      subst e3
      refine ⟨[(0, 121, 122, 41), (0, 121, 127, 44)], [(0, 121, 137, 48)], (0, 121, 132, 46), xIS, rfl, ?_, ⟨by decide, by decide⟩, by decide, cl_L_46, ca_xIS, fun qq => ?_⟩
      · intro z hz
        simp only [List.mem_cons, List.not_mem_nil, or_false] at hz
        rcases hz with rfl | rfl
        · exact ⟨by decide, xIO, cl_L_41, by decide⟩
        · exact ⟨by decide, xIA, cl_L_44, by decide⟩
      · refine rAstore dL_does_132 (by decide) ?_
        refine rLdc (v := -99999) dL_does_134 kc_L_43 ?_
        exact rIret dL_does_136 rfl rfl (Nat.le_of_ble_eq_true rfl) (Nat.le_of_ble_eq_true rfl) ⟨s, rfl, _, rfl, e9.symm, by rw [show (fDo h 0 x y).2.2 = h from e0]; exact hh, hFr.refl⟩
    exact absurd e2 (by simp)
  · obtain ⟨s1, rfl, r, rfl, p0, p1, p2, p3⟩ := hv
    have e9 : aI (fTell h x) = r := (if_pos p0).trans p1.symm
    refine rGoto (tgt := 121) dL_does_9 (by decide) ?_
    exact rIret dL_does_121 rfl rfl (Nat.le_of_ble_eq_true rfl) (Nat.le_of_ble_eq_true rfl) ⟨s1, rfl, _, rfl, e9.symm, p2, p3⟩
set_option maxRecDepth 100000 in
set_option maxHeartbeats 4000000 in
theorem c_L_does_1 {G : gG} {V : wV} {lo : Nat → Int64} {o : Nat} (ho : hallAt V o) {s : sgT} {h : hT} (hh : hallIs s o h) (hg : good h) (hfl : (gl G).stackTraces = false) {x y : Int32} : CSi G V mL_does cL_does (rmD 10 10 60) [.ref (ad V o), .int (nI 1), .int x, .int y] s lo (fun v s' => aPost o s (fDo h 1 x y).2.2 (aI (fDo h 1 x y)) v s') (fun _ => False) := by
  refine CT.ofH (by decide) (by decide +kernel) (by intro v hv; simp only [List.mem_cons, List.not_mem_nil, or_false] at hv; rcases hv with rfl | rfl | rfl | rfl <;> rfl) (Nat.le_of_ble_eq_true rfl) ?_
  show RW G _ _ _ _ 0 [some (.ref (ad V o)), some (.int (nI 1)), some (.int x), some (.int y), none] [] _ _ _
  refine rIload_n dL_does_0 rfl ?_
  refine r_if_ne (tgt := 12) dL_does_1 (by decide) (fun c => ?_) (fun c => absurd c (by decide))
  refine rIload_n dL_does_12 rfl ?_
  refine rIconst (v := (nI (1))) dL_does_13 (by decide) ?_
  refine r_icmp_ne (tgt := 25) dL_does_14 (by decide) (fun c => absurd rfl c) (fun c => ?_)
  refine rAload_n dL_does_17 rfl ?_
  refine rIload_n dL_does_18 rfl ?_
  refine rCallC (rRunV (M' := mX6_roll) (As := [.int x]) (rest := []) dL_does_19 rfl mk_X6_roll mi_X6_roll ll_L_14 ⟨(Nat.le_of_ble_eq_true rfl), (Nat.le_of_ble_eq_true rfl)⟩ o (by rw [wS_at ho.1, cel_O ho.1 (by decide)]) rfl rfl (Nat.le_of_ble_eq_true rfl) (Nat.le_of_ble_eq_true rfl) (Nat.le_of_ble_eq_true rfl) (c_X6_roll ho hh hg.1 (by decide) hfl)) (fun E w hE => ?_) (fun v w hv => ?_)
  · obtain ⟨rfl, e0, k, e1, e2⟩ := hE
    have e9 : aI (fRoll h x) = -99999 := if_neg (by rw [e1]; exact Nat.succ_ne_zero _)
    rcases k with _ | k
    · have e3 : xIO = E := Option.some.inj e2
      subst e3
      refine ⟨[], [(0, 121, 127, 44), (0, 121, 132, 46), (0, 121, 137, 48)], (0, 121, 122, 41), xIO, rfl, ?_, ⟨by decide, by decide⟩, by decide, cl_L_41, ca_xIO, fun qq => ?_⟩
      · intro z hz
        cases hz
      · refine rAstore dL_does_122 (by decide) ?_
        refine rLdc (v := -99999) dL_does_124 kc_L_43 ?_
        exact rIret dL_does_126 rfl rfl (Nat.le_of_ble_eq_true rfl) (Nat.le_of_ble_eq_true rfl) ⟨s, rfl, _, rfl, e9.symm, by rw [show (fDo h 1 x y).2.2 = h from e0]; exact hh, hFr.refl⟩
    rcases k with _ | k
    · have e3 : xIS = E := Option.some.inj e2
      subst e3
      refine ⟨[(0, 121, 122, 41), (0, 121, 127, 44)], [(0, 121, 137, 48)], (0, 121, 132, 46), xIS, rfl, ?_, ⟨by decide, by decide⟩, by decide, cl_L_46, ca_xIS, fun qq => ?_⟩
      · intro z hz
        simp only [List.mem_cons, List.not_mem_nil, or_false] at hz
        rcases hz with rfl | rfl
        · exact ⟨by decide, xIO, cl_L_41, by decide⟩
        · exact ⟨by decide, xIA, cl_L_44, by decide⟩
      · refine rAstore dL_does_132 (by decide) ?_
        refine rLdc (v := -99999) dL_does_134 kc_L_43 ?_
        exact rIret dL_does_136 rfl rfl (Nat.le_of_ble_eq_true rfl) (Nat.le_of_ble_eq_true rfl) ⟨s, rfl, _, rfl, e9.symm, by rw [show (fDo h 1 x y).2.2 = h from e0]; exact hh, hFr.refl⟩
    exact absurd e2 (by simp)
  · obtain ⟨s1, rfl, r, rfl, p0, p1, p2, p3⟩ := hv
    have e9 : aI (fRoll h x) = r := (if_pos p0).trans p1.symm
    refine rGoto (tgt := 121) dL_does_22 (by decide) ?_
    exact rIret dL_does_121 rfl rfl (Nat.le_of_ble_eq_true rfl) (Nat.le_of_ble_eq_true rfl) ⟨s1, rfl, _, rfl, e9.symm, p2, p3⟩
set_option maxRecDepth 100000 in
set_option maxHeartbeats 4000000 in
theorem c_L_does_2 {G : gG} {V : wV} {lo : Nat → Int64} {o : Nat} (ho : hallAt V o) {s : sgT} {h : hT} (hh : hallIs s o h) (hg : good h) (hfl : (gl G).stackTraces = false) {x y : Int32} : CSi G V mL_does cL_does (rmD 10 10 60) [.ref (ad V o), .int (nI 2), .int x, .int y] s lo (fun v s' => aPost o s (fDo h 2 x y).2.2 (aI (fDo h 2 x y)) v s') (fun _ => False) := by
  refine CT.ofH (by decide) (by decide +kernel) (by intro v hv; simp only [List.mem_cons, List.not_mem_nil, or_false] at hv; rcases hv with rfl | rfl | rfl | rfl <;> rfl) (Nat.le_of_ble_eq_true rfl) ?_
  show RW G _ _ _ _ 0 [some (.ref (ad V o)), some (.int (nI 2)), some (.int x), some (.int y), none] [] _ _ _
  refine rIload_n dL_does_0 rfl ?_
  refine r_if_ne (tgt := 12) dL_does_1 (by decide) (fun c => ?_) (fun c => absurd c (by decide))
  refine rIload_n dL_does_12 rfl ?_
  refine rIconst (v := (nI (1))) dL_does_13 (by decide) ?_
  refine r_icmp_ne (tgt := 25) dL_does_14 (by decide) (fun c => ?_) (fun c => absurd c (by decide))
  refine rIload_n dL_does_25 rfl ?_
  refine rIconst (v := (nI (2))) dL_does_26 (by decide) ?_
  refine r_icmp_ne (tgt := 46) dL_does_27 (by decide) (fun c => absurd rfl c) (fun c => ?_)
  refine rAload_n dL_does_30 rfl ?_
  refine rIload_n dL_does_31 rfl ?_
  refine rCallC (rRunV (M' := mX6_toggleLock) (As := [.int x]) (rest := []) dL_does_32 rfl mk_X6_toggleLock mi_X6_toggleLock ll_L_17 ⟨(Nat.le_of_ble_eq_true rfl), (Nat.le_of_ble_eq_true rfl)⟩ o (by rw [wS_at ho.1, cel_O ho.1 (by decide)]) rfl rfl (Nat.le_of_ble_eq_true rfl) (Nat.le_of_ble_eq_true rfl) (Nat.le_of_ble_eq_true rfl) (c_X6_toggleLock ho hh hfl)) (fun E w hE => ?_) (fun v w hv => ?_)
  · obtain ⟨rfl, e0, k, e1, e2⟩ := hE
    have e9 : aI (fToggle h x) = -99999 := if_neg (by rw [e1]; exact Nat.succ_ne_zero _)
    rcases k with _ | k
    · have e3 : xIO = E := Option.some.inj e2
      subst e3
      refine ⟨[], [(0, 121, 127, 44), (0, 121, 132, 46), (0, 121, 137, 48)], (0, 121, 122, 41), xIO, rfl, ?_, ⟨by decide, by decide⟩, by decide, cl_L_41, ca_xIO, fun qq => ?_⟩
      · intro z hz
        cases hz
      · refine rAstore dL_does_122 (by decide) ?_
        refine rLdc (v := -99999) dL_does_124 kc_L_43 ?_
        exact rIret dL_does_126 rfl rfl (Nat.le_of_ble_eq_true rfl) (Nat.le_of_ble_eq_true rfl) ⟨s, rfl, _, rfl, e9.symm, by rw [show (fDo h 2 x y).2.2 = h from e0]; exact hh, hFr.refl⟩
    exact absurd e2 (by simp)
  · obtain ⟨s1, rfl, r, rfl, p0, p1, p2, p3⟩ := hv
    have e9 : aI (fToggle h x) = r := (if_pos p0).trans p1.symm
    rcases tog_01 p1 p0 with q | q
    · subst q
      refine r_if_eq (tgt := 42) dL_does_35 (by decide) (fun c => ?_) (fun c => absurd rfl c)
      refine rIconst (v := (nI (0))) dL_does_42 (by decide) ?_
      refine rGoto (tgt := 121) dL_does_43 (by decide) ?_
      exact rIret dL_does_121 rfl rfl (Nat.le_of_ble_eq_true rfl) (Nat.le_of_ble_eq_true rfl) ⟨s1, rfl, _, rfl, (show nI 0 = _ from nI_0.trans e9.symm), p2, p3⟩
    · subst q
      refine r_if_eq (tgt := 42) dL_does_35 (by decide) (fun c => absurd c (by decide)) (fun c => ?_)
      refine rIconst (v := (nI (1))) dL_does_38 (by decide) ?_
      refine rGoto (tgt := 121) dL_does_39 (by decide) ?_
      exact rIret dL_does_121 rfl rfl (Nat.le_of_ble_eq_true rfl) (Nat.le_of_ble_eq_true rfl) ⟨s1, rfl, _, rfl, (show nI 1 = _ from e9.symm), p2, p3⟩
set_option maxRecDepth 100000 in
set_option maxHeartbeats 4000000 in
theorem c_L_does_3 {G : gG} {V : wV} {lo : Nat → Int64} {o : Nat} (ho : hallAt V o) {s : sgT} {h : hT} (hh : hallIs s o h) (hg : good h) (hfl : (gl G).stackTraces = false) {x y : Int32} : CSi G V mL_does cL_does (rmD 10 10 60) [.ref (ad V o), .int (nI 3), .int x, .int y] s lo (fun v s' => aPost o s (fDo h 3 x y).2.2 (aI (fDo h 3 x y)) v s') (fun _ => False) := by
  refine CT.ofH (by decide) (by decide +kernel) (by intro v hv; simp only [List.mem_cons, List.not_mem_nil, or_false] at hv; rcases hv with rfl | rfl | rfl | rfl <;> rfl) (Nat.le_of_ble_eq_true rfl) ?_
  show RW G _ _ _ _ 0 [some (.ref (ad V o)), some (.int (nI 3)), some (.int x), some (.int y), none] [] _ _ _
  refine rIload_n dL_does_0 rfl ?_
  refine r_if_ne (tgt := 12) dL_does_1 (by decide) (fun c => ?_) (fun c => absurd c (by decide))
  refine rIload_n dL_does_12 rfl ?_
  refine rIconst (v := (nI (1))) dL_does_13 (by decide) ?_
  refine r_icmp_ne (tgt := 25) dL_does_14 (by decide) (fun c => ?_) (fun c => absurd c (by decide))
  refine rIload_n dL_does_25 rfl ?_
  refine rIconst (v := (nI (2))) dL_does_26 (by decide) ?_
  refine r_icmp_ne (tgt := 46) dL_does_27 (by decide) (fun c => ?_) (fun c => absurd c (by decide))
  refine rIload_n dL_does_46 rfl ?_
  refine rIconst (v := (nI (3))) dL_does_47 (by decide) ?_
  refine r_icmp_ne (tgt := 59) dL_does_48 (by decide) (fun c => absurd rfl c) (fun c => ?_)
  refine rAload_n dL_does_51 rfl ?_
  refine rIload_n dL_does_52 rfl ?_
  refine rCallC (rRunV (M' := mX6_buyLevel) (As := [.int x]) (rest := []) dL_does_53 rfl mk_X6_buyLevel mi_X6_buyLevel ll_L_21 ⟨(Nat.le_of_ble_eq_true rfl), (Nat.le_of_ble_eq_true rfl)⟩ o (by rw [wS_at ho.1, cel_O ho.1 (by decide)]) rfl rfl (Nat.le_of_ble_eq_true rfl) (Nat.le_of_ble_eq_true rfl) (Nat.le_of_ble_eq_true rfl) (c_X6_buyLevel ho hh hg.1 (by decide) hfl)) (fun E w hE => ?_) (fun v w hv => ?_)
  · obtain ⟨rfl, e0, k, e1, e2⟩ := hE
    have e9 : aI (fLevel h x) = -99999 := if_neg (by rw [e1]; exact Nat.succ_ne_zero _)
    rcases k with _ | k
    · have e3 : xIO = E := Option.some.inj e2
      subst e3
      refine ⟨[], [(0, 121, 127, 44), (0, 121, 132, 46), (0, 121, 137, 48)], (0, 121, 122, 41), xIO, rfl, ?_, ⟨by decide, by decide⟩, by decide, cl_L_41, ca_xIO, fun qq => ?_⟩
      · intro z hz
        cases hz
      · refine rAstore dL_does_122 (by decide) ?_
        refine rLdc (v := -99999) dL_does_124 kc_L_43 ?_
        exact rIret dL_does_126 rfl rfl (Nat.le_of_ble_eq_true rfl) (Nat.le_of_ble_eq_true rfl) ⟨s, rfl, _, rfl, e9.symm, by rw [show (fDo h 3 x y).2.2 = h from e0]; exact hh, hFr.refl⟩
    rcases k with _ | k
    · have e3 : xIS = E := Option.some.inj e2
      subst e3
      refine ⟨[(0, 121, 122, 41), (0, 121, 127, 44)], [(0, 121, 137, 48)], (0, 121, 132, 46), xIS, rfl, ?_, ⟨by decide, by decide⟩, by decide, cl_L_46, ca_xIS, fun qq => ?_⟩
      · intro z hz
        simp only [List.mem_cons, List.not_mem_nil, or_false] at hz
        rcases hz with rfl | rfl
        · exact ⟨by decide, xIO, cl_L_41, by decide⟩
        · exact ⟨by decide, xIA, cl_L_44, by decide⟩
      · refine rAstore dL_does_132 (by decide) ?_
        refine rLdc (v := -99999) dL_does_134 kc_L_43 ?_
        exact rIret dL_does_136 rfl rfl (Nat.le_of_ble_eq_true rfl) (Nat.le_of_ble_eq_true rfl) ⟨s, rfl, _, rfl, e9.symm, by rw [show (fDo h 3 x y).2.2 = h from e0]; exact hh, hFr.refl⟩
    exact absurd e2 (by simp)
  · obtain ⟨s1, rfl, r, rfl, p0, p1, p2, p3⟩ := hv
    have e9 : aI (fLevel h x) = r := (if_pos p0).trans p1.symm
    refine rGoto (tgt := 121) dL_does_56 (by decide) ?_
    exact rIret dL_does_121 rfl rfl (Nat.le_of_ble_eq_true rfl) (Nat.le_of_ble_eq_true rfl) ⟨s1, rfl, _, rfl, e9.symm, p2, p3⟩
set_option maxRecDepth 100000 in
set_option maxHeartbeats 4000000 in
theorem c_L_does_4 {G : gG} {V : wV} {lo : Nat → Int64} {o : Nat} (ho : hallAt V o) {s : sgT} {h : hT} (hh : hallIs s o h) (hg : good h) (hfl : (gl G).stackTraces = false) {x y : Int32} : CSi G V mL_does cL_does (rmD 10 10 60) [.ref (ad V o), .int (nI 4), .int x, .int y] s lo (fun v s' => aPost o s (fDo h 4 x y).2.2 (aI (fDo h 4 x y)) v s') (fun _ => False) := by
  refine CT.ofH (by decide) (by decide +kernel) (by intro v hv; simp only [List.mem_cons, List.not_mem_nil, or_false] at hv; rcases hv with rfl | rfl | rfl | rfl <;> rfl) (Nat.le_of_ble_eq_true rfl) ?_
  show RW G _ _ _ _ 0 [some (.ref (ad V o)), some (.int (nI 4)), some (.int x), some (.int y), none] [] _ _ _
  refine rIload_n dL_does_0 rfl ?_
  refine r_if_ne (tgt := 12) dL_does_1 (by decide) (fun c => ?_) (fun c => absurd c (by decide))
  refine rIload_n dL_does_12 rfl ?_
  refine rIconst (v := (nI (1))) dL_does_13 (by decide) ?_
  refine r_icmp_ne (tgt := 25) dL_does_14 (by decide) (fun c => ?_) (fun c => absurd c (by decide))
  refine rIload_n dL_does_25 rfl ?_
  refine rIconst (v := (nI (2))) dL_does_26 (by decide) ?_
  refine r_icmp_ne (tgt := 46) dL_does_27 (by decide) (fun c => ?_) (fun c => absurd c (by decide))
  refine rIload_n dL_does_46 rfl ?_
  refine rIconst (v := (nI (3))) dL_does_47 (by decide) ?_
  refine r_icmp_ne (tgt := 59) dL_does_48 (by decide) (fun c => ?_) (fun c => absurd c (by decide))
  refine rIload_n dL_does_59 rfl ?_
  refine rIconst (v := (nI (4))) dL_does_60 (by decide) ?_
  refine r_icmp_ne (tgt := 73) dL_does_61 (by decide) (fun c => absurd rfl c) (fun c => ?_)
  refine rAload_n dL_does_64 rfl ?_
  refine rIload_n dL_does_65 rfl ?_
  refine rIload_n dL_does_66 rfl ?_
  refine rCallC (rRunV (M' := mX6_buy) (As := [.int x, .int y]) (rest := []) dL_does_67 rfl mk_X6_buy mi_X6_buy ll_L_24 ⟨(Nat.le_of_ble_eq_true rfl), (Nat.le_of_ble_eq_true rfl)⟩ o (by rw [wS_at ho.1, cel_O ho.1 (by decide)]) rfl rfl (Nat.le_of_ble_eq_true rfl) (Nat.le_of_ble_eq_true rfl) (Nat.le_of_ble_eq_true rfl) (c_X6_buy ho hh hg.1 (by decide) hfl)) (fun E w hE => ?_) (fun v w hv => ?_)
  · obtain ⟨rfl, e0, k, e1, e2⟩ := hE
    have e9 : aI (fBuy h x y) = -99999 := if_neg (by rw [e1]; exact Nat.succ_ne_zero _)
    rcases k with _ | k
    · have e3 : xIO = E := Option.some.inj e2
      subst e3
      refine ⟨[], [(0, 121, 127, 44), (0, 121, 132, 46), (0, 121, 137, 48)], (0, 121, 122, 41), xIO, rfl, ?_, ⟨by decide, by decide⟩, by decide, cl_L_41, ca_xIO, fun qq => ?_⟩
      · intro z hz
        cases hz
      · refine rAstore dL_does_122 (by decide) ?_
        refine rLdc (v := -99999) dL_does_124 kc_L_43 ?_
        exact rIret dL_does_126 rfl rfl (Nat.le_of_ble_eq_true rfl) (Nat.le_of_ble_eq_true rfl) ⟨s, rfl, _, rfl, e9.symm, by rw [show (fDo h 4 x y).2.2 = h from e0]; exact hh, hFr.refl⟩
    rcases k with _ | k
    · have e3 : xNS = E := Option.some.inj e2
      subst e3
      refine ⟨[(0, 121, 122, 41), (0, 121, 127, 44), (0, 121, 132, 46)], [], (0, 121, 137, 48), xNS, rfl, ?_, ⟨by decide, by decide⟩, by decide, cl_L_48, ca_xNS, fun qq => ?_⟩
      · intro z hz
        simp only [List.mem_cons, List.not_mem_nil, or_false] at hz
        rcases hz with rfl | rfl | rfl
        · exact ⟨by decide, xIO, cl_L_41, by decide⟩
        · exact ⟨by decide, xIA, cl_L_44, by decide⟩
        · exact ⟨by decide, xIS, cl_L_46, by decide⟩
      · refine rAstore dL_does_137 (by decide) ?_
        refine rLdc (v := -99999) dL_does_139 kc_L_43 ?_
        exact rIret dL_does_141 rfl rfl (Nat.le_of_ble_eq_true rfl) (Nat.le_of_ble_eq_true rfl) ⟨s, rfl, _, rfl, e9.symm, by rw [show (fDo h 4 x y).2.2 = h from e0]; exact hh, hFr.refl⟩
    rcases k with _ | k
    · have e3 : xIS = E := Option.some.inj e2
      subst e3
      refine ⟨[(0, 121, 122, 41), (0, 121, 127, 44)], [(0, 121, 137, 48)], (0, 121, 132, 46), xIS, rfl, ?_, ⟨by decide, by decide⟩, by decide, cl_L_46, ca_xIS, fun qq => ?_⟩
      · intro z hz
        simp only [List.mem_cons, List.not_mem_nil, or_false] at hz
        rcases hz with rfl | rfl
        · exact ⟨by decide, xIO, cl_L_41, by decide⟩
        · exact ⟨by decide, xIA, cl_L_44, by decide⟩
      · refine rAstore dL_does_132 (by decide) ?_
        refine rLdc (v := -99999) dL_does_134 kc_L_43 ?_
        exact rIret dL_does_136 rfl rfl (Nat.le_of_ble_eq_true rfl) (Nat.le_of_ble_eq_true rfl) ⟨s, rfl, _, rfl, e9.symm, by rw [show (fDo h 4 x y).2.2 = h from e0]; exact hh, hFr.refl⟩
    exact absurd e2 (by simp)
  · obtain ⟨s1, rfl, r, rfl, p0, p1, p2, p3⟩ := hv
    have e9 : aI (fBuy h x y) = r := (if_pos p0).trans p1.symm
    refine rGoto (tgt := 121) dL_does_70 (by decide) ?_
    exact rIret dL_does_121 rfl rfl (Nat.le_of_ble_eq_true rfl) (Nat.le_of_ble_eq_true rfl) ⟨s1, rfl, _, rfl, e9.symm, p2, p3⟩
set_option maxRecDepth 100000 in
set_option maxHeartbeats 4000000 in
theorem c_L_does_5 {G : gG} {V : wV} {lo : Nat → Int64} {o : Nat} (ho : hallAt V o) {s : sgT} {h : hT} (hh : hallIs s o h) (hg : good h) (hfl : (gl G).stackTraces = false) {x y : Int32} : CSi G V mL_does cL_does (rmD 10 10 60) [.ref (ad V o), .int (nI 5), .int x, .int y] s lo (fun v s' => aPost o s (fDo h 5 x y).2.2 (aI (fDo h 5 x y)) v s') (fun _ => False) := by
  refine CT.ofH (by decide) (by decide +kernel) (by intro v hv; simp only [List.mem_cons, List.not_mem_nil, or_false] at hv; rcases hv with rfl | rfl | rfl | rfl <;> rfl) (Nat.le_of_ble_eq_true rfl) ?_
  show RW G _ _ _ _ 0 [some (.ref (ad V o)), some (.int (nI 5)), some (.int x), some (.int y), none] [] _ _ _
  refine rIload_n dL_does_0 rfl ?_
  refine r_if_ne (tgt := 12) dL_does_1 (by decide) (fun c => ?_) (fun c => absurd c (by decide))
  refine rIload_n dL_does_12 rfl ?_
  refine rIconst (v := (nI (1))) dL_does_13 (by decide) ?_
  refine r_icmp_ne (tgt := 25) dL_does_14 (by decide) (fun c => ?_) (fun c => absurd c (by decide))
  refine rIload_n dL_does_25 rfl ?_
  refine rIconst (v := (nI (2))) dL_does_26 (by decide) ?_
  refine r_icmp_ne (tgt := 46) dL_does_27 (by decide) (fun c => ?_) (fun c => absurd c (by decide))
  refine rIload_n dL_does_46 rfl ?_
  refine rIconst (v := (nI (3))) dL_does_47 (by decide) ?_
  refine r_icmp_ne (tgt := 59) dL_does_48 (by decide) (fun c => ?_) (fun c => absurd c (by decide))
  refine rIload_n dL_does_59 rfl ?_
  refine rIconst (v := (nI (4))) dL_does_60 (by decide) ?_
  refine r_icmp_ne (tgt := 73) dL_does_61 (by decide) (fun c => ?_) (fun c => absurd c (by decide))
  refine rIload_n dL_does_73 rfl ?_
  refine rIconst (v := (nI (5))) dL_does_74 (by decide) ?_
  refine r_icmp_ne (tgt := 87) dL_does_75 (by decide) (fun c => absurd rfl c) (fun c => ?_)
  refine rAload_n dL_does_78 rfl ?_
  refine rIload_n dL_does_79 rfl ?_
  refine rIload_n dL_does_80 rfl ?_
  refine rCallC (rRunV (M' := mX6_sell) (As := [.int x, .int y]) (rest := []) dL_does_81 rfl mk_X6_sell mi_X6_sell ll_L_28 ⟨(Nat.le_of_ble_eq_true rfl), (Nat.le_of_ble_eq_true rfl)⟩ o (by rw [wS_at ho.1, cel_O ho.1 (by decide)]) rfl rfl (Nat.le_of_ble_eq_true rfl) (Nat.le_of_ble_eq_true rfl) (Nat.le_of_ble_eq_true rfl) (c_X6_sell ho hh hg.1 (by decide) hfl)) (fun E w hE => ?_) (fun v w hv => ?_)
  · obtain ⟨rfl, e0, k, e1, e2⟩ := hE
    have e9 : aI (fSell h x y) = -99999 := if_neg (by rw [e1]; exact Nat.succ_ne_zero _)
    rcases k with _ | k
    · have e3 : xIO = E := Option.some.inj e2
      subst e3
      refine ⟨[], [(0, 121, 127, 44), (0, 121, 132, 46), (0, 121, 137, 48)], (0, 121, 122, 41), xIO, rfl, ?_, ⟨by decide, by decide⟩, by decide, cl_L_41, ca_xIO, fun qq => ?_⟩
      · intro z hz
        cases hz
      · refine rAstore dL_does_122 (by decide) ?_
        refine rLdc (v := -99999) dL_does_124 kc_L_43 ?_
        exact rIret dL_does_126 rfl rfl (Nat.le_of_ble_eq_true rfl) (Nat.le_of_ble_eq_true rfl) ⟨s, rfl, _, rfl, e9.symm, by rw [show (fDo h 5 x y).2.2 = h from e0]; exact hh, hFr.refl⟩
    exact absurd e2 (by simp)
  · obtain ⟨s1, rfl, r, rfl, p0, p1, p2, p3⟩ := hv
    have e9 : aI (fSell h x y) = r := (if_pos p0).trans p1.symm
    refine rGoto (tgt := 121) dL_does_84 (by decide) ?_
    exact rIret dL_does_121 rfl rfl (Nat.le_of_ble_eq_true rfl) (Nat.le_of_ble_eq_true rfl) ⟨s1, rfl, _, rfl, e9.symm, p2, p3⟩
set_option maxRecDepth 100000 in
set_option maxHeartbeats 4000000 in
theorem c_L_does_6 {G : gG} {V : wV} {lo : Nat → Int64} {o : Nat} (ho : hallAt V o) {s : sgT} {h : hT} (hh : hallIs s o h) (hg : good h) (hfl : (gl G).stackTraces = false) {x y : Int32} : CSi G V mL_does cL_does (rmD 10 10 60) [.ref (ad V o), .int (nI 6), .int x, .int y] s lo (fun v s' => aPost o s (fDo h 6 x y).2.2 (aI (fDo h 6 x y)) v s') (fun _ => False) := by
  refine CT.ofH (by decide) (by decide +kernel) (by intro v hv; simp only [List.mem_cons, List.not_mem_nil, or_false] at hv; rcases hv with rfl | rfl | rfl | rfl <;> rfl) (Nat.le_of_ble_eq_true rfl) ?_
  show RW G _ _ _ _ 0 [some (.ref (ad V o)), some (.int (nI 6)), some (.int x), some (.int y), none] [] _ _ _
  refine rIload_n dL_does_0 rfl ?_
  refine r_if_ne (tgt := 12) dL_does_1 (by decide) (fun c => ?_) (fun c => absurd c (by decide))
  refine rIload_n dL_does_12 rfl ?_
  refine rIconst (v := (nI (1))) dL_does_13 (by decide) ?_
  refine r_icmp_ne (tgt := 25) dL_does_14 (by decide) (fun c => ?_) (fun c => absurd c (by decide))
  refine rIload_n dL_does_25 rfl ?_
  refine rIconst (v := (nI (2))) dL_does_26 (by decide) ?_
  refine r_icmp_ne (tgt := 46) dL_does_27 (by decide) (fun c => ?_) (fun c => absurd c (by decide))
  refine rIload_n dL_does_46 rfl ?_
  refine rIconst (v := (nI (3))) dL_does_47 (by decide) ?_
  refine r_icmp_ne (tgt := 59) dL_does_48 (by decide) (fun c => ?_) (fun c => absurd c (by decide))
  refine rIload_n dL_does_59 rfl ?_
  refine rIconst (v := (nI (4))) dL_does_60 (by decide) ?_
  refine r_icmp_ne (tgt := 73) dL_does_61 (by decide) (fun c => ?_) (fun c => absurd c (by decide))
  refine rIload_n dL_does_73 rfl ?_
  refine rIconst (v := (nI (5))) dL_does_74 (by decide) ?_
  refine r_icmp_ne (tgt := 87) dL_does_75 (by decide) (fun c => ?_) (fun c => absurd c (by decide))
  refine rIload_n dL_does_87 rfl ?_
  refine rBipush (v := (nI (6))) dL_does_88 (by decide) ?_
  refine r_icmp_ne (tgt := 102) dL_does_90 (by decide) (fun c => absurd rfl c) (fun c => ?_)
  refine rAload_n dL_does_93 rfl ?_
  refine rIload_n dL_does_94 rfl ?_
  refine rIload_n dL_does_95 rfl ?_
  refine rCallC (rRunV (M' := mX6_toBoard) (As := [.int x, .int y]) (rest := []) dL_does_96 rfl mk_X6_toBoard mi_X6_toBoard ll_L_31 ⟨(Nat.le_of_ble_eq_true rfl), (Nat.le_of_ble_eq_true rfl)⟩ o (by rw [wS_at ho.1, cel_O ho.1 (by decide)]) rfl rfl (Nat.le_of_ble_eq_true rfl) (Nat.le_of_ble_eq_true rfl) (Nat.le_of_ble_eq_true rfl) (c_X6_toBoard ho hh hg.1 (by decide) hfl)) (fun E w hE => ?_) (fun v w hv => ?_)
  · obtain ⟨rfl, e0, k, e1, e2⟩ := hE
    have e9 : aI (fBoard h x y) = -99999 := if_neg (by rw [e1]; exact Nat.succ_ne_zero _)
    rcases k with _ | k
    · have e3 : xIO = E := Option.some.inj e2
      subst e3
      refine ⟨[], [(0, 121, 127, 44), (0, 121, 132, 46), (0, 121, 137, 48)], (0, 121, 122, 41), xIO, rfl, ?_, ⟨by decide, by decide⟩, by decide, cl_L_41, ca_xIO, fun qq => ?_⟩
      · intro z hz
        cases hz
      · refine rAstore dL_does_122 (by decide) ?_
        refine rLdc (v := -99999) dL_does_124 kc_L_43 ?_
        exact rIret dL_does_126 rfl rfl (Nat.le_of_ble_eq_true rfl) (Nat.le_of_ble_eq_true rfl) ⟨s, rfl, _, rfl, e9.symm, by rw [show (fDo h 6 x y).2.2 = h from e0]; exact hh, hFr.refl⟩
    rcases k with _ | k
    · have e3 : xIS = E := Option.some.inj e2
      subst e3
      refine ⟨[(0, 121, 122, 41), (0, 121, 127, 44)], [(0, 121, 137, 48)], (0, 121, 132, 46), xIS, rfl, ?_, ⟨by decide, by decide⟩, by decide, cl_L_46, ca_xIS, fun qq => ?_⟩
      · intro z hz
        simp only [List.mem_cons, List.not_mem_nil, or_false] at hz
        rcases hz with rfl | rfl
        · exact ⟨by decide, xIO, cl_L_41, by decide⟩
        · exact ⟨by decide, xIA, cl_L_44, by decide⟩
      · refine rAstore dL_does_132 (by decide) ?_
        refine rLdc (v := -99999) dL_does_134 kc_L_43 ?_
        exact rIret dL_does_136 rfl rfl (Nat.le_of_ble_eq_true rfl) (Nat.le_of_ble_eq_true rfl) ⟨s, rfl, _, rfl, e9.symm, by rw [show (fDo h 6 x y).2.2 = h from e0]; exact hh, hFr.refl⟩
    exact absurd e2 (by simp)
  · obtain ⟨s1, rfl, r, rfl, p0, p1, p2, p3⟩ := hv
    have e9 : aI (fBoard h x y) = r := (if_pos p0).trans p1.symm
    refine rGoto (tgt := 121) dL_does_99 (by decide) ?_
    exact rIret dL_does_121 rfl rfl (Nat.le_of_ble_eq_true rfl) (Nat.le_of_ble_eq_true rfl) ⟨s1, rfl, _, rfl, e9.symm, p2, p3⟩
set_option maxRecDepth 100000 in
set_option maxHeartbeats 4000000 in
theorem c_L_does_7 {G : gG} {V : wV} {lo : Nat → Int64} {o : Nat} (ho : hallAt V o) {s : sgT} {h : hT} (hh : hallIs s o h) (hg : good h) (hfl : (gl G).stackTraces = false) {x y : Int32} : CSi G V mL_does cL_does (rmD 10 10 60) [.ref (ad V o), .int (nI 7), .int x, .int y] s lo (fun v s' => aPost o s (fDo h 7 x y).2.2 (aI (fDo h 7 x y)) v s') (fun _ => False) := by
  refine CT.ofH (by decide) (by decide +kernel) (by intro v hv; simp only [List.mem_cons, List.not_mem_nil, or_false] at hv; rcases hv with rfl | rfl | rfl | rfl <;> rfl) (Nat.le_of_ble_eq_true rfl) ?_
  show RW G _ _ _ _ 0 [some (.ref (ad V o)), some (.int (nI 7)), some (.int x), some (.int y), none] [] _ _ _
  refine rIload_n dL_does_0 rfl ?_
  refine r_if_ne (tgt := 12) dL_does_1 (by decide) (fun c => ?_) (fun c => absurd c (by decide))
  refine rIload_n dL_does_12 rfl ?_
  refine rIconst (v := (nI (1))) dL_does_13 (by decide) ?_
  refine r_icmp_ne (tgt := 25) dL_does_14 (by decide) (fun c => ?_) (fun c => absurd c (by decide))
  refine rIload_n dL_does_25 rfl ?_
  refine rIconst (v := (nI (2))) dL_does_26 (by decide) ?_
  refine r_icmp_ne (tgt := 46) dL_does_27 (by decide) (fun c => ?_) (fun c => absurd c (by decide))
  refine rIload_n dL_does_46 rfl ?_
  refine rIconst (v := (nI (3))) dL_does_47 (by decide) ?_
  refine r_icmp_ne (tgt := 59) dL_does_48 (by decide) (fun c => ?_) (fun c => absurd c (by decide))
  refine rIload_n dL_does_59 rfl ?_
  refine rIconst (v := (nI (4))) dL_does_60 (by decide) ?_
  refine r_icmp_ne (tgt := 73) dL_does_61 (by decide) (fun c => ?_) (fun c => absurd c (by decide))
  refine rIload_n dL_does_73 rfl ?_
  refine rIconst (v := (nI (5))) dL_does_74 (by decide) ?_
  refine r_icmp_ne (tgt := 87) dL_does_75 (by decide) (fun c => ?_) (fun c => absurd c (by decide))
  refine rIload_n dL_does_87 rfl ?_
  refine rBipush (v := (nI (6))) dL_does_88 (by decide) ?_
  refine r_icmp_ne (tgt := 102) dL_does_90 (by decide) (fun c => ?_) (fun c => absurd c (by decide))
  refine rIload_n dL_does_102 rfl ?_
  refine rBipush (v := (nI (7))) dL_does_103 (by decide) ?_
  refine r_icmp_ne (tgt := 117) dL_does_105 (by decide) (fun c => absurd rfl c) (fun c => ?_)
  refine rAload_n dL_does_108 rfl ?_
  refine rIload_n dL_does_109 rfl ?_
  refine rIload_n dL_does_110 rfl ?_
  refine rCallC (rRunV (M' := mX6_toBench) (As := [.int x, .int y]) (rest := []) dL_does_111 rfl mk_X6_toBench mi_X6_toBench ll_L_34 ⟨(Nat.le_of_ble_eq_true rfl), (Nat.le_of_ble_eq_true rfl)⟩ o (by rw [wS_at ho.1, cel_O ho.1 (by decide)]) rfl rfl (Nat.le_of_ble_eq_true rfl) (Nat.le_of_ble_eq_true rfl) (Nat.le_of_ble_eq_true rfl) (c_X6_toBench ho hh hg.1 (by decide) hfl)) (fun E w hE => ?_) (fun v w hv => ?_)
  · obtain ⟨rfl, e0, k, e1, e2⟩ := hE
    have e9 : aI (fBench h x y) = -99999 := if_neg (by rw [e1]; exact Nat.succ_ne_zero _)
    rcases k with _ | k
    · have e3 : xIO = E := Option.some.inj e2
      subst e3
      refine ⟨[], [(0, 121, 127, 44), (0, 121, 132, 46), (0, 121, 137, 48)], (0, 121, 122, 41), xIO, rfl, ?_, ⟨by decide, by decide⟩, by decide, cl_L_41, ca_xIO, fun qq => ?_⟩
      · intro z hz
        cases hz
      · refine rAstore dL_does_122 (by decide) ?_
        refine rLdc (v := -99999) dL_does_124 kc_L_43 ?_
        exact rIret dL_does_126 rfl rfl (Nat.le_of_ble_eq_true rfl) (Nat.le_of_ble_eq_true rfl) ⟨s, rfl, _, rfl, e9.symm, by rw [show (fDo h 7 x y).2.2 = h from e0]; exact hh, hFr.refl⟩
    rcases k with _ | k
    · have e3 : xIS = E := Option.some.inj e2
      subst e3
      refine ⟨[(0, 121, 122, 41), (0, 121, 127, 44)], [(0, 121, 137, 48)], (0, 121, 132, 46), xIS, rfl, ?_, ⟨by decide, by decide⟩, by decide, cl_L_46, ca_xIS, fun qq => ?_⟩
      · intro z hz
        simp only [List.mem_cons, List.not_mem_nil, or_false] at hz
        rcases hz with rfl | rfl
        · exact ⟨by decide, xIO, cl_L_41, by decide⟩
        · exact ⟨by decide, xIA, cl_L_44, by decide⟩
      · refine rAstore dL_does_132 (by decide) ?_
        refine rLdc (v := -99999) dL_does_134 kc_L_43 ?_
        exact rIret dL_does_136 rfl rfl (Nat.le_of_ble_eq_true rfl) (Nat.le_of_ble_eq_true rfl) ⟨s, rfl, _, rfl, e9.symm, by rw [show (fDo h 7 x y).2.2 = h from e0]; exact hh, hFr.refl⟩
    exact absurd e2 (by simp)
  · obtain ⟨s1, rfl, r, rfl, p0, p1, p2, p3⟩ := hv
    have e9 : aI (fBench h x y) = r := (if_pos p0).trans p1.symm
    refine rGoto (tgt := 121) dL_does_114 (by decide) ?_
    exact rIret dL_does_121 rfl rfl (Nat.le_of_ble_eq_true rfl) (Nat.le_of_ble_eq_true rfl) ⟨s1, rfl, _, rfl, e9.symm, p2, p3⟩
set_option maxRecDepth 100000 in
set_option maxHeartbeats 4000000 in
theorem c_L_does_8 {G : gG} {V : wV} {lo : Nat → Int64} {o : Nat} (ho : hallAt V o) {s : sgT} {h : hT} (hh : hallIs s o h) (hg : good h) (hfl : (gl G).stackTraces = false) {x y : Int32} : CSi G V mL_does cL_does (rmD 10 10 60) [.ref (ad V o), .int (nI 8), .int x, .int y] s lo (fun v s' => aPost o s (fDo h 8 x y).2.2 (aI (fDo h 8 x y)) v s') (fun _ => False) := by
  refine CT.ofH (by decide) (by decide +kernel) (by intro v hv; simp only [List.mem_cons, List.not_mem_nil, or_false] at hv; rcases hv with rfl | rfl | rfl | rfl <;> rfl) (Nat.le_of_ble_eq_true rfl) ?_
  show RW G _ _ _ _ 0 [some (.ref (ad V o)), some (.int (nI 8)), some (.int x), some (.int y), none] [] _ _ _
  refine rIload_n dL_does_0 rfl ?_
  refine r_if_ne (tgt := 12) dL_does_1 (by decide) (fun c => ?_) (fun c => absurd c (by decide))
  refine rIload_n dL_does_12 rfl ?_
  refine rIconst (v := (nI (1))) dL_does_13 (by decide) ?_
  refine r_icmp_ne (tgt := 25) dL_does_14 (by decide) (fun c => ?_) (fun c => absurd c (by decide))
  refine rIload_n dL_does_25 rfl ?_
  refine rIconst (v := (nI (2))) dL_does_26 (by decide) ?_
  refine r_icmp_ne (tgt := 46) dL_does_27 (by decide) (fun c => ?_) (fun c => absurd c (by decide))
  refine rIload_n dL_does_46 rfl ?_
  refine rIconst (v := (nI (3))) dL_does_47 (by decide) ?_
  refine r_icmp_ne (tgt := 59) dL_does_48 (by decide) (fun c => ?_) (fun c => absurd c (by decide))
  refine rIload_n dL_does_59 rfl ?_
  refine rIconst (v := (nI (4))) dL_does_60 (by decide) ?_
  refine r_icmp_ne (tgt := 73) dL_does_61 (by decide) (fun c => ?_) (fun c => absurd c (by decide))
  refine rIload_n dL_does_73 rfl ?_
  refine rIconst (v := (nI (5))) dL_does_74 (by decide) ?_
  refine r_icmp_ne (tgt := 87) dL_does_75 (by decide) (fun c => ?_) (fun c => absurd c (by decide))
  refine rIload_n dL_does_87 rfl ?_
  refine rBipush (v := (nI (6))) dL_does_88 (by decide) ?_
  refine r_icmp_ne (tgt := 102) dL_does_90 (by decide) (fun c => ?_) (fun c => absurd c (by decide))
  refine rIload_n dL_does_102 rfl ?_
  refine rBipush (v := (nI (7))) dL_does_103 (by decide) ?_
  refine r_icmp_ne (tgt := 117) dL_does_105 (by decide) (fun c => ?_) (fun c => absurd c (by decide))
  refine rAload_n dL_does_117 rfl ?_
  refine rCallC (rRunV (M' := mX6_round) (As := []) (rest := []) dL_does_118 rfl mk_X6_round mi_X6_round ll_L_37 ⟨(Nat.le_of_ble_eq_true rfl), (Nat.le_of_ble_eq_true rfl)⟩ o (by rw [wS_at ho.1, cel_O ho.1 (by decide)]) rfl rfl (Nat.le_of_ble_eq_true rfl) (Nat.le_of_ble_eq_true rfl) (Nat.le_of_ble_eq_true rfl) (c_X6_round ho hh hg.1 (by decide) hfl)) (fun E w hE => ?_) (fun v w hv => ?_)
  · obtain ⟨rfl, e0, k, e1, e2⟩ := hE
    have e9 : aI (fRound h) = -99999 := if_neg (by rw [e1]; exact Nat.succ_ne_zero _)
    rcases k with _ | k
    · have e3 : xIS = E := Option.some.inj e2
      subst e3
      refine ⟨[(0, 121, 122, 41), (0, 121, 127, 44)], [(0, 121, 137, 48)], (0, 121, 132, 46), xIS, rfl, ?_, ⟨by decide, by decide⟩, by decide, cl_L_46, ca_xIS, fun qq => ?_⟩
      · intro z hz
        simp only [List.mem_cons, List.not_mem_nil, or_false] at hz
        rcases hz with rfl | rfl
        · exact ⟨by decide, xIO, cl_L_41, by decide⟩
        · exact ⟨by decide, xIA, cl_L_44, by decide⟩
      · refine rAstore dL_does_132 (by decide) ?_
        refine rLdc (v := -99999) dL_does_134 kc_L_43 ?_
        exact rIret dL_does_136 rfl rfl (Nat.le_of_ble_eq_true rfl) (Nat.le_of_ble_eq_true rfl) ⟨s, rfl, _, rfl, e9.symm, by rw [show (fDo h 8 x y).2.2 = h from e0]; exact hh, hFr.refl⟩
    exact absurd e2 (by simp)
  · obtain ⟨s1, rfl, r, rfl, p0, p1, p2, p3⟩ := hv
    have e9 : aI (fRound h) = r := (if_pos p0).trans p1.symm
    exact rIret dL_does_121 rfl rfl (Nat.le_of_ble_eq_true rfl) (Nat.le_of_ble_eq_true rfl) ⟨s1, rfl, _, rfl, e9.symm, p2, p3⟩
set_option maxRecDepth 100000 in
set_option maxHeartbeats 4000000 in
theorem c_L_does {G : gG} {V : wV} {lo : Nat → Int64} {o : Nat} (ho : hallAt V o) {s : sgT} {h : hT} (hh : hallIs s o h) (hg : good h) (hfl : (gl G).stackTraces = false) {w : Nat} (hw : w < 9) {x y : Int32} : CSi G V mL_does cL_does (rmD 10 10 60) [.ref (ad V o), .int (nI w), .int x, .int y] s lo (fun v s' => aPost o s (fDo h w x y).2.2 (aI (fDo h w x y)) v s') (fun _ => False) := by
  rcases w with _ | _ | _ | _ | _ | _ | _ | _ | _ | w
  · exact c_L_does_0 ho hh hg hfl
  · exact c_L_does_1 ho hh hg hfl
  · exact c_L_does_2 ho hh hg hfl
  · exact c_L_does_3 ho hh hg hfl
  · exact c_L_does_4 ho hh hg hfl
  · exact c_L_does_5 ho hh hg hfl
  · exact c_L_does_6 ho hh hg hfl
  · exact c_L_does_7 ho hh hg hfl
  · exact c_L_does_8 ho hh hg hfl
  · exact absurd hw (by omega)
set_option maxRecDepth 100000 in
set_option maxHeartbeats 4000000 in
theorem act_tail {G : gG} {V : wV} {lo : Nat → Int64} {o : Nat} (ho : hallAt V o) {s : sgT} {h : hT} (hh : hallIs s o h) (hg : good h) (hfl : (gl G).stackTraces = false) {n : Nat} (hn : n < 40) (hn8 : 8 ≤ n) {v d a b : Int32} : RW G mL_act cL_act (rmD 11 10 60) (QS G V s lo (fun v s' => ∃ r : Int32, v = some (.int r) ∧ aPost o s (fDo h (aWh n) a b).2.2 (aI (fDo h (aWh n) a b)) r s') (fun _ => False) (rmD 11 10 60)) 136 [some (.ref (ad V o)), some (.int v), some (.int d), some (.int (nI n)), some (.int a), some (.int b), none] [] (wS G V s lo) 0 0 := by
  have hw : aWh n < 9 := by
    unfold aWh
    (repeat' split) <;> omega
  have K : RW G mL_act cL_act (rmD 11 10 60) (QS G V s lo (fun v s' => ∃ r : Int32, v = some (.int r) ∧ aPost o s (fDo h (aWh n) a b).2.2 (aI (fDo h (aWh n) a b)) r s') (fun _ => False) (rmD 11 10 60)) 210 [some (.ref (ad V o)), some (.int v), some (.int d), some (.int (nI n)), some (.int a), some (.int b), none] [.int (nI (aWh n))] (wS G V s lo) 0 0 := by
    refine rIstore dL_act_210 (by decide) ?_
    show RW G _ _ _ _ 212 [some (.ref (ad V o)), some (.int v), some (.int d), some (.int (nI n)), some (.int a), some (.int b), some (.int (nI (aWh n)))] [] _ _ _
    refine rAload_n dL_act_212 rfl ?_
    refine rIload dL_act_213 rfl ?_
    refine rIload dL_act_215 rfl ?_
    refine rIload dL_act_217 rfl ?_
    refine sCallW (M' := mL_does) (rm' := rmD 10 10 60) (As := [.ref (ad V o), .int (nI (aWh n)), .int a, .int b]) (rest := []) dL_act_219 (by decide) mk_L_does ms_L_does lw_L_61 ⟨(Nat.le_of_ble_eq_true rfl), (Nat.le_of_ble_eq_true rfl)⟩ rfl (Nat.le_of_ble_eq_true rfl) (Nat.le_of_ble_eq_true rfl) (c_L_does ho hh hg hfl hw) rfl (Nat.le_of_ble_eq_true rfl) (fun v s1 hv => ?_)
    obtain ⟨rfl, p1, f1⟩ := hv
    have g1 := hFr.trans hFr.refl f1
    refine RW.widen (k := 10) (n := 60) (Nat.le_of_ble_eq_true rfl) (Nat.le_of_ble_eq_true rfl) ?_
    show RW G _ _ _ _ 222 [some (.ref (ad V o)), some (.int v), some (.int d), some (.int (nI n)), some (.int a), some (.int b), some (.int (nI (aWh n)))] [.int (aI (fDo h (aWh n) a b))] _ _ _
    exact sIret dL_act_222 rfl rfl (Nat.le_of_ble_eq_true rfl) (Nat.le_of_ble_eq_true rfl) ⟨_, rfl, rfl, p1, g1⟩
  refine rIload_n dL_act_136 rfl ?_
  refine rBipush (v := (nI (15))) dL_act_137 (by decide) ?_
  refine r_icmp_ge (tgt := 146) dL_act_139 (by decide) (fun c_139 => ?_) (fun c_139 => ?_)
  · have c_139 : 15 ≤ n := (nI_leI (by omega) (by omega)).mp c_139
    refine rIload_n dL_act_146 rfl ?_
    refine rBipush (v := (nI (15))) dL_act_147 (by decide) ?_
    refine r_icmp_ne (tgt := 156) dL_act_149 (by decide) (fun c_149 => ?_) (fun c_149 => ?_)
    · have c_149 : ¬ (n = 15) := fun h => c_149 ((nI_eq (by omega) (by omega)).mpr h)
      refine rIload_n dL_act_156 rfl ?_
      refine rBipush (v := (nI (19))) dL_act_157 (by decide) ?_
      refine r_icmp_ge (tgt := 166) dL_act_159 (by decide) (fun c_159 => ?_) (fun c_159 => ?_)
      · have c_159 : 19 ≤ n := (nI_leI (by omega) (by omega)).mp c_159
        refine rIload_n dL_act_166 rfl ?_
        refine rBipush (v := (nI (28))) dL_act_167 (by decide) ?_
        refine r_icmp_ge (tgt := 176) dL_act_169 (by decide) (fun c_169 => ?_) (fun c_169 => ?_)
        · have c_169 : 28 ≤ n := (nI_leI (by omega) (by omega)).mp c_169
          refine rIload_n dL_act_176 rfl ?_
          refine rBipush (v := (nI (28))) dL_act_177 (by decide) ?_
          refine r_icmp_ne (tgt := 186) dL_act_179 (by decide) (fun c_179 => ?_) (fun c_179 => ?_)
          · have c_179 : ¬ (n = 28) := fun h => c_179 ((nI_eq (by omega) (by omega)).mpr h)
            refine rIload_n dL_act_186 rfl ?_
            refine rBipush (v := (nI (34))) dL_act_187 (by decide) ?_
            refine r_icmp_ge (tgt := 197) dL_act_189 (by decide) (fun c_189 => ?_) (fun c_189 => ?_)
            · have c_189 : 34 ≤ n := (nI_leI (by omega) (by omega)).mp c_189
              refine rIload_n dL_act_197 rfl ?_
              refine rBipush (v := (nI (36))) dL_act_198 (by decide) ?_
              refine r_icmp_ge (tgt := 208) dL_act_200 (by decide) (fun c_200 => ?_) (fun c_200 => ?_)
              · have c_200 : 36 ≤ n := (nI_leI (by omega) (by omega)).mp c_200
                refine rBipush (v := (nI (8))) dL_act_208 (by decide) ?_
                have e : aWh n = 8 := by
                  unfold aWh
                  (repeat' split) <;> omega
                exact tTop (congrArg nI e.symm) K
              · have c_200 : ¬ (36 ≤ n) := fun h => c_200 ((nI_leI (by omega) (by omega)).mpr h)
                refine rBipush (v := (nI (7))) dL_act_203 (by decide) ?_
                refine rGoto (tgt := 210) dL_act_205 (by decide) ?_
                have e : aWh n = 7 := by
                  unfold aWh
                  (repeat' split) <;> omega
                exact tTop (congrArg nI e.symm) K
            · have c_189 : ¬ (34 ≤ n) := fun h => c_189 ((nI_leI (by omega) (by omega)).mpr h)
              refine rBipush (v := (nI (6))) dL_act_192 (by decide) ?_
              refine rGoto (tgt := 210) dL_act_194 (by decide) ?_
              have e : aWh n = 6 := by
                unfold aWh
                (repeat' split) <;> omega
              exact tTop (congrArg nI e.symm) K
          · have c_179 : n = 28 := (nI_eq (by omega) (by omega)).mp c_179
            refine rIconst (v := (nI (5))) dL_act_182 (by decide) ?_
            refine rGoto (tgt := 210) dL_act_183 (by decide) ?_
            have e : aWh n = 5 := by
              unfold aWh
              (repeat' split) <;> omega
            exact tTop (congrArg nI e.symm) K
        · have c_169 : ¬ (28 ≤ n) := fun h => c_169 ((nI_leI (by omega) (by omega)).mpr h)
          refine rIconst (v := (nI (4))) dL_act_172 (by decide) ?_
          refine rGoto (tgt := 210) dL_act_173 (by decide) ?_
          have e : aWh n = 4 := by
            unfold aWh
            (repeat' split) <;> omega
          exact tTop (congrArg nI e.symm) K
      · have c_159 : ¬ (19 ≤ n) := fun h => c_159 ((nI_leI (by omega) (by omega)).mpr h)
        refine rIconst (v := (nI (3))) dL_act_162 (by decide) ?_
        refine rGoto (tgt := 210) dL_act_163 (by decide) ?_
        have e : aWh n = 3 := by
          unfold aWh
          (repeat' split) <;> omega
        exact tTop (congrArg nI e.symm) K
    · have c_149 : n = 15 := (nI_eq (by omega) (by omega)).mp c_149
      refine rIconst (v := (nI (2))) dL_act_152 (by decide) ?_
      refine rGoto (tgt := 210) dL_act_153 (by decide) ?_
      have e : aWh n = 2 := by
        unfold aWh
        (repeat' split) <;> omega
      exact tTop (congrArg nI e.symm) K
  · have c_139 : ¬ (15 ≤ n) := fun h => c_139 ((nI_leI (by omega) (by omega)).mpr h)
    refine rIconst (v := (nI (1))) dL_act_142 (by decide) ?_
    refine rGoto (tgt := 210) dL_act_143 (by decide) ?_
    have e : aWh n = 1 := by
      unfold aWh
      (repeat' split) <;> omega
    exact tTop (congrArg nI e.symm) K
set_option maxRecDepth 100000 in
set_option maxHeartbeats 4000000 in
theorem act_true {G : gG} {V : wV} {lo : Nat → Int64} {o : Nat} (ho : hallAt V o) {s : sgT} {h : hT} (hh : hallIs s o h) (hg : good h) (hfl : (gl G).stackTraces = false) {v : Int32} : RW G mL_act cL_act (rmD 11 10 60) (QS G V s lo (fun u s' => ∃ r : Int32, u = some (.int r) ∧ aPost o s (fAc h v true).2.2 (aI (fAc h v true)) r s') (fun _ => False) (rmD 11 10 60)) 18 [some (.ref (ad V o)), some (.int v), some (.int (nI 1)), none, none, none, none] [] (wS G V s lo) 0 0 := by
  refine rIload_n dL_act_18 rfl ?_
  refine rBipush (v := (nI (40))) dL_act_19 (by decide) ?_
  refine sCallSp (M' := mL_low) (rm' := rmD 1 0 0) (As := [.int v, .int (nI 40)]) (rest := []) dL_act_21 rfl mk_L_low ms_L_low ll_L_56 ⟨(Nat.le_of_ble_eq_true rfl), (Nat.le_of_ble_eq_true rfl)⟩ rfl (Nat.le_of_ble_eq_true rfl) (Nat.le_of_ble_eq_true rfl) (c_L_low (by decide) (by decide)) rfl (Nat.le_of_ble_eq_true rfl) (fun v hk => ?_)
  refine RW.widen (k := 0) (n := 0) (Nat.le_of_ble_eq_true rfl) (Nat.le_of_ble_eq_true rfl) ?_
  subst hk
  show RW G _ _ _ _ 24 [some (.ref (ad V o)), some (.int v), some (.int (nI 1)), none, none, none, none] [.int (nI (lowN v 40))] _ _ _
  have hn : lowN v 40 < 40 := lowN_lt (by decide)
  refine rIstore_n dL_act_24 (by decide) ?_
  show RW G _ _ _ _ 25 [some (.ref (ad V o)), some (.int v), some (.int (nI 1)), some (.int (nI (lowN v 40))), none, none, none] [] _ _ _
  refine rIload_n dL_act_25 rfl ?_
  refine r_if_eq (tgt := 43) dL_act_26 (by decide) (fun c => absurd c (by decide)) (fun c => ?_)
  refine rIload_n dL_act_29 rfl ?_
  refine rBipush (v := (nI (6))) dL_act_30 (by decide) ?_
  refine rIshr dL_act_32 ?_
  refine tTop (w := shr v 6) rfl ?_
  refine rBipush (v := (nI (7))) dL_act_33 (by decide) ?_
  refine sCallSp (M' := mL_low) (rm' := rmD 1 0 0) (As := [.int (shr v 6), .int (nI 7)]) (rest := []) dL_act_35 rfl mk_L_low ms_L_low ll_L_56 ⟨(Nat.le_of_ble_eq_true rfl), (Nat.le_of_ble_eq_true rfl)⟩ rfl (Nat.le_of_ble_eq_true rfl) (Nat.le_of_ble_eq_true rfl) (c_L_low (by decide) (by decide)) rfl (Nat.le_of_ble_eq_true rfl) (fun v hk => ?_)
  refine RW.widen (k := 0) (n := 0) (Nat.le_of_ble_eq_true rfl) (Nat.le_of_ble_eq_true rfl) ?_
  subst hk
  show RW G _ _ _ _ 38 [some (.ref (ad V o)), some (.int v), some (.int (nI 1)), some (.int (nI (lowN v 40))), none, none, none] [.int (nI (lowN (shr v 6) 7))] _ _ _
  refine rIconst (v := (nI (1))) dL_act_38 (by decide) ?_
  refine rIsub dL_act_39 ?_
  refine rGoto (tgt := 49) dL_act_40 (by decide) ?_
  refine tTop (w := (aPl v true)) rfl ?_
  refine rIstore dL_act_49 (by decide) ?_
  show RW G _ _ _ _ 51 [some (.ref (ad V o)), some (.int v), some (.int (nI 1)), some (.int (nI (lowN v 40))), some (.int (aPl v true)), none, none] [] _ _ _
  refine rIload_n dL_act_51 rfl ?_
  refine r_if_eq (tgt := 69) dL_act_52 (by decide) (fun c => absurd c (by decide)) (fun c => ?_)
  refine rIload_n dL_act_55 rfl ?_
  refine rBipush (v := (nI (9))) dL_act_56 (by decide) ?_
  refine rIshr dL_act_58 ?_
  refine tTop (w := shr v 9) rfl ?_
  refine rBipush (v := (nI (11))) dL_act_59 (by decide) ?_
  refine sCallSp (M' := mL_low) (rm' := rmD 1 0 0) (As := [.int (shr v 9), .int (nI 11)]) (rest := []) dL_act_61 rfl mk_L_low ms_L_low ll_L_56 ⟨(Nat.le_of_ble_eq_true rfl), (Nat.le_of_ble_eq_true rfl)⟩ rfl (Nat.le_of_ble_eq_true rfl) (Nat.le_of_ble_eq_true rfl) (c_L_low (by decide) (by decide)) rfl (Nat.le_of_ble_eq_true rfl) (fun v hk => ?_)
  refine RW.widen (k := 0) (n := 0) (Nat.le_of_ble_eq_true rfl) (Nat.le_of_ble_eq_true rfl) ?_
  subst hk
  show RW G _ _ _ _ 64 [some (.ref (ad V o)), some (.int v), some (.int (nI 1)), some (.int (nI (lowN v 40))), some (.int (aPl v true)), none, none] [.int (nI (lowN (shr v 9) 11))] _ _ _
  refine rIconst (v := (nI (2))) dL_act_64 (by decide) ?_
  refine rIsub dL_act_65 ?_
  refine rGoto (tgt := 77) dL_act_66 (by decide) ?_
  refine tTop (w := (aPc v true)) rfl ?_
  refine rIstore dL_act_77 (by decide) ?_
  show RW G _ _ _ _ 79 [some (.ref (ad V o)), some (.int v), some (.int (nI 1)), some (.int (nI (lowN v 40))), some (.int (aPl v true)), some (.int (aPc v true)), none] [] _ _ _
  refine rIload_n dL_act_79 rfl ?_
  refine rBipush (v := (nI (8))) dL_act_80 (by decide) ?_
  refine r_icmp_ge (tgt := 136) dL_act_82 (by decide) (fun c_82 => ?_) (fun c_82 => ?_)
  · have c_82 : 8 ≤ (lowN v 40) := (nI_leI (by omega) (by omega)).mp c_82
    have e : fAc h v true = fDo h (aWh (lowN v 40)) (aPl v true) (aPc v true) := if_neg (by omega)
    rw [e]
    exact act_tail ho hh hg hfl hn (by omega)
  · have c_82 : ¬ (8 ≤ (lowN v 40)) := fun h => c_82 ((nI_leI (by omega) (by omega)).mpr h)
    have e : fAc h v true = fDo h 0 (aTl v true) (nI 0) := if_pos (by omega)
    rw [e]
    refine rAload_n dL_act_85 rfl ?_
    refine rIconst (v := (nI (0))) dL_act_86 (by decide) ?_
    refine rIload_n dL_act_87 rfl ?_
    refine r_if_eq (tgt := 107) dL_act_88 (by decide) (fun c => absurd c (by decide)) (fun c => ?_)
    refine rIload_n dL_act_91 rfl ?_
    refine rBipush (v := (nI (6))) dL_act_92 (by decide) ?_
    refine rIshr dL_act_94 ?_
    refine tTop (w := shr v 6) rfl ?_
    refine rSipush (v := (nI (1200))) dL_act_95 (by decide) ?_
    refine sCallSp (M' := mL_low) (rm' := rmD 1 0 0) (As := [.int (shr v 6), .int (nI 1200)]) (rest := [.int (nI 0), .ref (ad V o)]) dL_act_98 rfl mk_L_low ms_L_low ll_L_56 ⟨(Nat.le_of_ble_eq_true rfl), (Nat.le_of_ble_eq_true rfl)⟩ rfl (Nat.le_of_ble_eq_true rfl) (Nat.le_of_ble_eq_true rfl) (c_L_low (by decide) (by decide)) rfl (Nat.le_of_ble_eq_true rfl) (fun v hk => ?_)
    refine RW.widen (k := 0) (n := 0) (Nat.le_of_ble_eq_true rfl) (Nat.le_of_ble_eq_true rfl) ?_
    subst hk
    show RW G _ _ _ _ 101 [some (.ref (ad V o)), some (.int v), some (.int (nI 1)), some (.int (nI (lowN v 40))), some (.int (aPl v true)), some (.int (aPc v true)), none] [.int (nI (lowN (shr v 6) 1200)), .int (nI 0), .ref (ad V o)] _ _ _
    refine rBipush (v := (nI (99))) dL_act_101 (by decide) ?_
    refine rIsub dL_act_103 ?_
    refine rGoto (tgt := 131) dL_act_104 (by decide) ?_
    refine tTop (w := (aTl v true)) rfl ?_
    refine rIconst (v := (nI (0))) dL_act_131 (by decide) ?_
    refine sCallW (M' := mL_does) (rm' := rmD 10 10 60) (As := [.ref (ad V o), .int (nI 0), .int (aTl v true), .int (nI 0)]) (rest := []) dL_act_132 (by decide) mk_L_does ms_L_does lw_L_61 ⟨(Nat.le_of_ble_eq_true rfl), (Nat.le_of_ble_eq_true rfl)⟩ rfl (Nat.le_of_ble_eq_true rfl) (Nat.le_of_ble_eq_true rfl) (c_L_does ho hh hg hfl (by decide)) rfl (Nat.le_of_ble_eq_true rfl) (fun v s1 hv => ?_)
    obtain ⟨rfl, p1, f1⟩ := hv
    have g1 := hFr.trans hFr.refl f1
    refine RW.widen (k := 10) (n := 60) (Nat.le_of_ble_eq_true rfl) (Nat.le_of_ble_eq_true rfl) ?_
    show RW G _ _ _ _ 135 [some (.ref (ad V o)), some (.int v), some (.int (nI 1)), some (.int (nI (lowN v 40))), some (.int (aPl v true)), some (.int (aPc v true)), none] [.int (aI (fDo h 0 (aTl v true) (nI 0)))] _ _ _
    exact sIret dL_act_135 rfl rfl (Nat.le_of_ble_eq_true rfl) (Nat.le_of_ble_eq_true rfl) ⟨_, rfl, rfl, p1, g1⟩
set_option maxRecDepth 100000 in
set_option maxHeartbeats 4000000 in
theorem act_false {G : gG} {V : wV} {lo : Nat → Int64} {o : Nat} (ho : hallAt V o) {s : sgT} {h : hT} (hh : hallIs s o h) (hg : good h) (hfl : (gl G).stackTraces = false) {v : Int32} : RW G mL_act cL_act (rmD 11 10 60) (QS G V s lo (fun u s' => ∃ r : Int32, u = some (.int r) ∧ aPost o s (fAc h v false).2.2 (aI (fAc h v false)) r s') (fun _ => False) (rmD 11 10 60)) 18 [some (.ref (ad V o)), some (.int v), some (.int (nI 0)), none, none, none, none] [] (wS G V s lo) 0 0 := by
  refine rIload_n dL_act_18 rfl ?_
  refine rBipush (v := (nI (40))) dL_act_19 (by decide) ?_
  refine sCallSp (M' := mL_low) (rm' := rmD 1 0 0) (As := [.int v, .int (nI 40)]) (rest := []) dL_act_21 rfl mk_L_low ms_L_low ll_L_56 ⟨(Nat.le_of_ble_eq_true rfl), (Nat.le_of_ble_eq_true rfl)⟩ rfl (Nat.le_of_ble_eq_true rfl) (Nat.le_of_ble_eq_true rfl) (c_L_low (by decide) (by decide)) rfl (Nat.le_of_ble_eq_true rfl) (fun v hk => ?_)
  refine RW.widen (k := 0) (n := 0) (Nat.le_of_ble_eq_true rfl) (Nat.le_of_ble_eq_true rfl) ?_
  subst hk
  show RW G _ _ _ _ 24 [some (.ref (ad V o)), some (.int v), some (.int (nI 0)), none, none, none, none] [.int (nI (lowN v 40))] _ _ _
  have hn : lowN v 40 < 40 := lowN_lt (by decide)
  refine rIstore_n dL_act_24 (by decide) ?_
  show RW G _ _ _ _ 25 [some (.ref (ad V o)), some (.int v), some (.int (nI 0)), some (.int (nI (lowN v 40))), none, none, none] [] _ _ _
  refine rIload_n dL_act_25 rfl ?_
  refine r_if_eq (tgt := 43) dL_act_26 (by decide) (fun c => ?_) (fun c => absurd (by decide) c)
  refine rIload_n dL_act_43 rfl ?_
  refine rBipush (v := (nI (6))) dL_act_44 (by decide) ?_
  refine rIshr dL_act_46 ?_
  refine tTop (w := shr v 6) rfl ?_
  refine rIconst (v := (nI (3))) dL_act_47 (by decide) ?_
  refine rIand dL_act_48 ?_
  refine tTop (w := (aPl v false)) rfl ?_
  refine rIstore dL_act_49 (by decide) ?_
  show RW G _ _ _ _ 51 [some (.ref (ad V o)), some (.int v), some (.int (nI 0)), some (.int (nI (lowN v 40))), some (.int (aPl v false)), none, none] [] _ _ _
  refine rIload_n dL_act_51 rfl ?_
  refine r_if_eq (tgt := 69) dL_act_52 (by decide) (fun c => ?_) (fun c => absurd (by decide) c)
  refine rIload_n dL_act_69 rfl ?_
  refine rBipush (v := (nI (9))) dL_act_70 (by decide) ?_
  refine rIshr dL_act_72 ?_
  refine tTop (w := shr v 9) rfl ?_
  refine rIconst (v := (nI (3))) dL_act_73 (by decide) ?_
  refine sCallSp (M' := mL_low) (rm' := rmD 1 0 0) (As := [.int (shr v 9), .int (nI 3)]) (rest := []) dL_act_74 rfl mk_L_low ms_L_low ll_L_56 ⟨(Nat.le_of_ble_eq_true rfl), (Nat.le_of_ble_eq_true rfl)⟩ rfl (Nat.le_of_ble_eq_true rfl) (Nat.le_of_ble_eq_true rfl) (c_L_low (by decide) (by decide)) rfl (Nat.le_of_ble_eq_true rfl) (fun v hk => ?_)
  refine RW.widen (k := 0) (n := 0) (Nat.le_of_ble_eq_true rfl) (Nat.le_of_ble_eq_true rfl) ?_
  subst hk
  show RW G _ _ _ _ 77 [some (.ref (ad V o)), some (.int v), some (.int (nI 0)), some (.int (nI (lowN v 40))), some (.int (aPl v false)), none, none] [.int (nI (lowN (shr v 9) 3))] _ _ _
  refine tTop (w := (aPc v false)) rfl ?_
  refine rIstore dL_act_77 (by decide) ?_
  show RW G _ _ _ _ 79 [some (.ref (ad V o)), some (.int v), some (.int (nI 0)), some (.int (nI (lowN v 40))), some (.int (aPl v false)), some (.int (aPc v false)), none] [] _ _ _
  refine rIload_n dL_act_79 rfl ?_
  refine rBipush (v := (nI (8))) dL_act_80 (by decide) ?_
  refine r_icmp_ge (tgt := 136) dL_act_82 (by decide) (fun c_82 => ?_) (fun c_82 => ?_)
  · have c_82 : 8 ≤ (lowN v 40) := (nI_leI (by omega) (by omega)).mp c_82
    have e : fAc h v false = fDo h (aWh (lowN v 40)) (aPl v false) (aPc v false) := if_neg (by omega)
    rw [e]
    exact act_tail ho hh hg hfl hn (by omega)
  · have c_82 : ¬ (8 ≤ (lowN v 40)) := fun h => c_82 ((nI_leI (by omega) (by omega)).mpr h)
    have e : fAc h v false = fDo h 0 (aTl v false) (nI 0) := if_pos (by omega)
    rw [e]
    refine rAload_n dL_act_85 rfl ?_
    refine rIconst (v := (nI (0))) dL_act_86 (by decide) ?_
    refine rIload_n dL_act_87 rfl ?_
    refine r_if_eq (tgt := 107) dL_act_88 (by decide) (fun c => ?_) (fun c => absurd (by decide) c)
    refine rIload_n dL_act_107 rfl ?_
    refine rBipush (v := (nI (6))) dL_act_108 (by decide) ?_
    refine rIshr dL_act_110 ?_
    refine tTop (w := shr v 6) rfl ?_
    refine rIload_n dL_act_111 rfl ?_
    refine rBipush (v := (nI (17))) dL_act_112 (by decide) ?_
    refine rIshr dL_act_114 ?_
    refine tTop (w := shr v 17) rfl ?_
    refine rIconst (v := (nI (1))) dL_act_115 (by decide) ?_
    refine rIand dL_act_116 ?_
    refine r_if_ne (tgt := 126) dL_act_117 (by decide) (fun c_117 => ?_) (fun c_117 => ?_)
    · refine rBipush (v := (nI (9))) dL_act_126 (by decide) ?_
      refine sCallSp (M' := mL_low) (rm' := rmD 1 0 0) (As := [.int (shr v 6), .int (nI 9)]) (rest := [.int (nI 0), .ref (ad V o)]) dL_act_128 rfl mk_L_low ms_L_low ll_L_56 ⟨(Nat.le_of_ble_eq_true rfl), (Nat.le_of_ble_eq_true rfl)⟩ rfl (Nat.le_of_ble_eq_true rfl) (Nat.le_of_ble_eq_true rfl) (c_L_low (by decide) (by decide)) rfl (Nat.le_of_ble_eq_true rfl) (fun v hk => ?_)
      refine RW.widen (k := 0) (n := 0) (Nat.le_of_ble_eq_true rfl) (Nat.le_of_ble_eq_true rfl) ?_
      subst hk
      show RW G _ _ _ _ 131 [some (.ref (ad V o)), some (.int v), some (.int (nI 0)), some (.int (nI (lowN v 40))), some (.int (aPl v false)), some (.int (aPc v false)), none] [.int (nI (lowN (shr v 6) 9)), .int (nI 0), .ref (ad V o)] _ _ _
      refine tTop (w := (aTl v false)) (if_neg c_117).symm ?_
      refine rIconst (v := (nI (0))) dL_act_131 (by decide) ?_
      refine sCallW (M' := mL_does) (rm' := rmD 10 10 60) (As := [.ref (ad V o), .int (nI 0), .int (aTl v false), .int (nI 0)]) (rest := []) dL_act_132 (by decide) mk_L_does ms_L_does lw_L_61 ⟨(Nat.le_of_ble_eq_true rfl), (Nat.le_of_ble_eq_true rfl)⟩ rfl (Nat.le_of_ble_eq_true rfl) (Nat.le_of_ble_eq_true rfl) (c_L_does ho hh hg hfl (by decide)) rfl (Nat.le_of_ble_eq_true rfl) (fun v s1 hv => ?_)
      obtain ⟨rfl, p1, f1⟩ := hv
      have g1 := hFr.trans hFr.refl f1
      refine RW.widen (k := 10) (n := 60) (Nat.le_of_ble_eq_true rfl) (Nat.le_of_ble_eq_true rfl) ?_
      show RW G _ _ _ _ 135 [some (.ref (ad V o)), some (.int v), some (.int (nI 0)), some (.int (nI (lowN v 40))), some (.int (aPl v false)), some (.int (aPc v false)), none] [.int (aI (fDo h 0 (aTl v false) (nI 0)))] _ _ _
      exact sIret dL_act_135 rfl rfl (Nat.le_of_ble_eq_true rfl) (Nat.le_of_ble_eq_true rfl) ⟨_, rfl, rfl, p1, g1⟩
    · refine rSipush (v := (nI (1001))) dL_act_120 (by decide) ?_
      refine rGoto (tgt := 128) dL_act_123 (by decide) ?_
      refine sCallSp (M' := mL_low) (rm' := rmD 1 0 0) (As := [.int (shr v 6), .int (nI 1001)]) (rest := [.int (nI 0), .ref (ad V o)]) dL_act_128 rfl mk_L_low ms_L_low ll_L_56 ⟨(Nat.le_of_ble_eq_true rfl), (Nat.le_of_ble_eq_true rfl)⟩ rfl (Nat.le_of_ble_eq_true rfl) (Nat.le_of_ble_eq_true rfl) (c_L_low (by decide) (by decide)) rfl (Nat.le_of_ble_eq_true rfl) (fun v hk => ?_)
      refine RW.widen (k := 0) (n := 0) (Nat.le_of_ble_eq_true rfl) (Nat.le_of_ble_eq_true rfl) ?_
      subst hk
      show RW G _ _ _ _ 131 [some (.ref (ad V o)), some (.int v), some (.int (nI 0)), some (.int (nI (lowN v 40))), some (.int (aPl v false)), some (.int (aPc v false)), none] [.int (nI (lowN (shr v 6) 1001)), .int (nI 0), .ref (ad V o)] _ _ _
      refine tTop (w := (aTl v false)) (if_pos c_117).symm ?_
      refine rIconst (v := (nI (0))) dL_act_131 (by decide) ?_
      refine sCallW (M' := mL_does) (rm' := rmD 10 10 60) (As := [.ref (ad V o), .int (nI 0), .int (aTl v false), .int (nI 0)]) (rest := []) dL_act_132 (by decide) mk_L_does ms_L_does lw_L_61 ⟨(Nat.le_of_ble_eq_true rfl), (Nat.le_of_ble_eq_true rfl)⟩ rfl (Nat.le_of_ble_eq_true rfl) (Nat.le_of_ble_eq_true rfl) (c_L_does ho hh hg hfl (by decide)) rfl (Nat.le_of_ble_eq_true rfl) (fun v s1 hv => ?_)
      obtain ⟨rfl, p1, f1⟩ := hv
      have g1 := hFr.trans hFr.refl f1
      refine RW.widen (k := 10) (n := 60) (Nat.le_of_ble_eq_true rfl) (Nat.le_of_ble_eq_true rfl) ?_
      show RW G _ _ _ _ 135 [some (.ref (ad V o)), some (.int v), some (.int (nI 0)), some (.int (nI (lowN v 40))), some (.int (aPl v false)), some (.int (aPc v false)), none] [.int (aI (fDo h 0 (aTl v false) (nI 0)))] _ _ _
      exact sIret dL_act_135 rfl rfl (Nat.le_of_ble_eq_true rfl) (Nat.le_of_ble_eq_true rfl) ⟨_, rfl, rfl, p1, g1⟩
set_option maxRecDepth 100000 in
set_option maxHeartbeats 4000000 in
theorem c_L_act {G : gG} {V : wV} {lo : Nat → Int64} {o : Nat} (ho : hallAt V o) {s : sgT} {h : hT} (hh : hallIs s o h) (hg : good h) (hfl : (gl G).stackTraces = false) {v : Int32} : CSi G V mL_act cL_act (rmD 11 10 60) [.ref (ad V o), .int v] s lo (fun r s' => aPost o s (fAct h v).2.2 (aI (fAct h v)) r s') (fun _ => False) := by
  refine CSi.of (L := [some (.ref (ad V o)), some (.int v), none, none, none, none, none]) rfl (by decide +kernel) rfl (Nat.le_of_ble_eq_true rfl) rfl ?_
  refine rIload_n dL_act_0 rfl ?_
  refine rBipush (v := (nI (18))) dL_act_1 (by decide) ?_
  refine rIshr dL_act_3 ?_
  refine tTop (w := shr v 18) rfl ?_
  refine rBipush (v := (nI (7))) dL_act_4 (by decide) ?_
  refine rIand dL_act_6 ?_
  refine rBipush (v := (nI (7))) dL_act_7 (by decide) ?_
  refine r_icmp_ne (tgt := 16) dL_act_9 (by decide) (fun c_9 => ?_) (fun c_9 => ?_)
  · refine rIconst (v := (nI (0))) dL_act_16 (by decide) ?_
    refine rIstore_n dL_act_17 (by decide) ?_
    show RW G _ _ _ _ 18 [some (.ref (ad V o)), some (.int v), some (.int (nI 0)), none, none, none, none] [] _ _ _
    have e : fAct h v = fAc h v false := if_neg c_9
    rw [e]
    exact act_false ho hh hg hfl
  · refine rIconst (v := (nI (1))) dL_act_12 (by decide) ?_
    refine rGoto (tgt := 17) dL_act_13 (by decide) ?_
    refine rIstore_n dL_act_17 (by decide) ?_
    show RW G _ _ _ _ 18 [some (.ref (ad V o)), some (.int v), some (.int (nI 1)), none, none, none, none] [] _ _ _
    have e : fAct h v = fAc h v true := if_pos c_9
    rw [e]
    exact act_true ho hh hg hfl
