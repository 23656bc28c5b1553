/-! the start of the law (by program) -/
theorem nk_L_9 : Cond.classLink RL 9 RX6 ∈ gWds := gMem (i := 16) (by decide +kernel) (by rfl)
theorem ni_X6 : Cond.instantiable RX6 5 ∈ gWds := gMem (i := 17) (by decide +kernel) (by rfl)
theorem nn_X6 : Cond.initialized RX6 ∈ gWds := gMem (i := 1) (by decide +kernel) (by rfl)
theorem nd_X6 : ∀ j, j < 5 → defaultValue (tyX6 j) = vp_V [.null, .null, .null, .null, .int 0] j := by decide +kernel
theorem gW_t {w : Cond} (h : w ∈ gWds) : w ∈ lw_tbl := (List.mem_filter.mp h).1
theorem arr_p {s : State} {args : Array Value} {ty : FieldType} (h : (Cond.arrayClass ty).before args s = true) : ∃ cA : ClassId, ArrOfT s cA ty ∧ s.vm.findClass ("[" ++ ty.toString) = some cA := by
  obtain ⟨cA, kA, comp, h1, h2, h3⟩ := Cond.arrayClass_spec h
  refine ⟨cA, fun n z => ⟨fun k h => (by cases h), kA, h2, comp, h3⟩, h1⟩
theorem arr_q {s : State} {args : Array Value} {C : String} (h : (Cond.arrayOver (.object C)).before args s = true) : ∃ cA : ClassId, ArrOfT s cA (.object C) ∧ va_RA s cA (.object C) := by
  obtain ⟨comp, cA, kA, h1, h2, h3, h4, h5⟩ := Cond.arrayOver_spec h
  exact ⟨cA, fun n z => ⟨fun k h => (by cases h), kA, h3, comp, h4⟩, kA, comp, h3, h4, h1, h5⟩
def gvn : Cond := Jvm.Cond.and given_1 narrow_1
def strOk (w : Cond) : Bool := match w with
  | .stringRef own k _ => !(own == RX6) || decide (Cond.exactly (.string RX6 k) "java/lang/String" ∈ flatC gvn)
  | _ => true
theorem str_all : tables_1.all strOk = true := by decide +kernel
theorem str_in {k : Nat} {tx : String} (h : Cond.stringRef RX6 k tx ∈ tables_1) : Cond.exactly (.string RX6 k) "java/lang/String" ∈ flatC gvn := by
  have h1 := List.all_eq_true.mp str_all _ h
  have h2 : (!(RX6 == RX6) || decide (Cond.exactly (.string RX6 k) "java/lang/String" ∈ flatC gvn)) = true := h1
  rw [beq_self_eq_true] at h2
  exact of_decide_eq_true h2
theorem nc_all : ∀ q ∈ ncL, Cond.not (.castable q.1 q.2) ∈ flatC gvn := by decide +kernel
theorem gv_U : Cond.isRef (.static Bundle.tN "UNASSIGNED_STACK" Bundle.steD) ∈ flatC gvn := by decide +kernel
theorem gv_N : Cond.isRef (.static Bundle.tN "SUPPRESSED_SENTINEL" Bundle.listD) ∈ flatC gvn := by decide +kernel
theorem gv_A : Cond.arrayOf (.static RX6 "PAIRS" "[I") .int ∈ flatC gvn := by decide +kernel
theorem gv_L : Cond.eq (.length (.static RX6 "PAIRS" "[I")) (.int 12) ∈ flatC gvn := by decide +kernel
theorem gv_E : ∀ j, j < 12 → Cond.eq (.elem (.static RX6 "PAIRS" "[I") (.int (Int32.ofNat j))) (.int (([0, 1, 2, 3, 0, 2, 1, 3, 0, 3, 1, 2] : List Int32).getD j 0)) ∈ flatC gvn := by decide +kernel
theorem wl_U : Cond.laysStatic Bundle.tN "UNASSIGNED_STACK" Bundle.steD ∈ tables_1 := by decide +kernel
theorem wl_N : Cond.laysStatic Bundle.tN "SUPPRESSED_SENTINEL" Bundle.listD ∈ tables_1 := by decide +kernel
theorem wl_P : Cond.laysStatic RX6 "PAIRS" "[I" ∈ tables_1 := by decide +kernel
theorem wi_T : Cond.initialized Bundle.tN ∈ tables_1 := by decide +kernel
theorem wi_6 : Cond.initialized RX6 ∈ tables_1 := by decide +kernel
theorem wo_2 : Cond.arrayOver (.object RX2) ∈ tables_1 := by decide +kernel
/-- the law's start gives the names of the world -/
theorem start_G (l : Launch) {p : Program} {s : State} {m : MethodId} {meth : Method} {c : Code} {b L : Nat} {xs : Nat → Int32} (C0 : lw_At p s m meth c b L xs) : ∃ G : gG, gl G = l ∧ gb G = s.heap.size ∧ gsb G = b ∧ gsL G = L ∧ gSF G s ∧ gSH G s s.heap := by
  obtain ⟨hx, hb, hr, hml, hown, hts, hX, hbl, hlocks, hgv⟩ := C0
  have hg : ∀ w ∈ gWds, w.before #[Value.ref b] s = true := fun w h => hts w (gW_t h)
  have ht : ∀ w ∈ tables_1, w.before #[Value.ref b] s = true := fun w h => hts w (gTb h)
  have hv : ∀ w ∈ flatC gvn, w.before #[Value.ref b] s = true := flat_of_before gvn hgv
  obtain ⟨c0, i0, k0⟩ := u_known (ws := gWds) (C := RX0) (T := TX0) (N := 5) (n := 5) hg in_X0 (hg _ ni_X0)
  obtain ⟨c1, i1, k1⟩ := u_known (ws := gWds) (C := RX1) (T := TX1) (N := 3) (n := 3) hg in_X1 (hg _ ni_X1)
  obtain ⟨c2, i2, k2⟩ := u_known (ws := gWds) (C := RX2) (T := TX2) (N := 8) (n := 8) hg in_X2 (hg _ ni_X2)
  obtain ⟨c3, i3, k3⟩ := u_known (ws := gWds) (C := RX3) (T := TX3) (N := 1) (n := 1) hg in_X3 (hg _ ni_X3)
  obtain ⟨c4, i4, k4⟩ := u_known (ws := gWds) (C := RX4) (T := TX4) (N := 4) (n := 4) hg in_X4 (hg _ ni_X4)
  obtain ⟨c5, i5, k5⟩ := u_known (ws := gWds) (C := RX5) (T := TX5) (N := 3) (n := 3) hg in_X5 (hg _ ni_X5)
  obtain ⟨c6, i6, k6⟩ := u_known (ws := gWds) (C := RX6) (T := TX6) (N := 5) (n := 5) hg in_X6 (hg _ ni_X6)
  obtain ⟨ai, ai1, ai2⟩ := arr_p (hg _ wd_aint)
  obtain ⟨aq, aq1, aq2⟩ := arr_q (ht _ wo_2)
  have hA : ∀ a : Nat, a < s.heap.size → ¬ (fun q : Nat => s.heap.size ≤ q) a := fun a h => Nat.not_le.mpr h
  obtain ⟨pa, pa1, pa2⟩ := va_Tof (tm := .static RX6 "PAIRS" "[I") (ty := .int) (N := 12) (f := gPairs) (A := fun q : Nat => s.heap.size ≤ q) (by decide) (hv _ gv_A) (va_eqt (hv _ gv_L)) (fun j hj => va_eqt (hv _ (gv_E j hj))) hA
  obtain ⟨sa, hsa⟩ : ∃ sa : Nat → Nat, ∀ k tx, Cond.stringRef RX6 k tx ∈ tables_1 → (Term.string RX6 k).eval #[Value.ref b] s none [] s = some (.ref (sa k)) := by
    refine ⟨fun k => match (Term.string RX6 k).eval #[Value.ref b] s none [] s with
      | some (.ref a) => a
      | _ => 0, fun k tx hk => ?_⟩
    obtain ⟨a, -, -, -, ha, -⟩ := Cond.exactly_spec (hv _ (str_in hk))
    show _ = some (Value.ref (match (Term.string RX6 k).eval #[Value.ref b] s none [] s with
      | some (.ref a) => a
      | _ => 0))
    rw [ha]
  refine ⟨((l, s.heap.size), ((fun k => ([c0, c1, c2, c3, c4, c5, c6] : List ClassId).getD k c0, fun k => ([i0, i1, i2, i3, i4, i5, i6] : List (Nat → Nat)).getD k i0), fun k => ([ai, aq] : List ClassId).getD k ai), (sa, pa), (b, L, xs)), rfl, rfl, rfl, rfl, ⟨?_, ⟨?_, ?_⟩, ?_, ?_, ?_⟩, ⟨?_, ?_, ?_, ?_, hX, hbl, ?_, Nat.le_refl _⟩⟩
  · exact fun w hw hn => va_Nw.of (gNw_tab hn) (ht w hw)
  · intro k q hq
    match k, hq with
    | 0, hq => cases hq; exact k0
    | 1, hq => cases hq; exact k1
    | 2, hq => cases hq; exact k2
    | 3, hq => cases hq; exact k3
    | 4, hq => cases hq; exact k4
    | 5, hq => cases hq; exact k5
    | 6, hq => cases hq; exact k6
    | k + 7, hq => simp [vwCl] at hq
  · intro k q hq
    match k, hq with
    | 0, hq => cases hq; exact ⟨ai1, ai2⟩
    | 1, hq => cases hq; exact ⟨aq1, aq2⟩
    | k + 2, hq => simp [gTys] at hq
  · exact fun k tx hk => vk_R.of (ht _ hk) (hsa k tx hk)
  · exact fun q hq => va_Nc.of (hv _ (nc_all q hq))
  · exact va_AO.of (ht _ wo_2)
  · exact vx_Zqof (ht _ wl_U) (ht _ wi_T) (hv _ gv_U) hA
  · exact vx_Zqof (ht _ wl_N) (ht _ wi_T) (hv _ gv_N) hA
  · exact va_Zref (ht _ wl_P) (ht _ wi_6) pa1 hA
  · exact pa2
  · exact hA b hbl
set_option maxRecDepth 100000 in
set_option maxHeartbeats 4000000 in
theorem law_body {G : gG} {nm : String} {eh : List (Nat × Nat × Nat × Nat)} (hL : gsL G ≤ 260) (hfl : (gl G).stackTraces = false) : RW G (mLw nm eh) code room_1 (QL G) 0 [some (.ref (gsb G)), none, none, none, none, none, none] [] [] 0 0 := by
  refine rNew (ci := 6) (fs := [.null, .null, .null, .null, .int 0]) dL_law_0 rfl in_X6 nk_L_9 ni_X6 nn_X6 ft_X6 nd_X6 (Nat.le_of_ble_eq_true rfl) (Nat.le_of_ble_eq_true rfl) (fun a60 => ?_)
  refine rWs (ws' := [] ++ tab 1 (fun _ => (a60, .inr (6, [.null, .null, .null, .null, .int 0])))) rfl ?_
  refine rDup dL_law_3 rfl ?_
  refine rCall (mc := (rmD 4 60 1000).cells) (ms := (rmD 4 60 1000).slots) (rest := [.ref a60]) (rRunI (M' := mX6_init) (As := []) dL_law_4 rfl rfl rfl mk_X6_init mi_X6_init ll_L_105 ⟨(Nat.le_of_ble_eq_true rfl), (Nat.le_of_ble_eq_true rfl)⟩ rfl (Nat.le_of_ble_eq_true rfl) (Nat.le_of_ble_eq_true rfl) (Nat.le_of_ble_eq_true rfl) i_X6) (fun v w hv => ?_)
  obtain ⟨rfl, a6, f6, rfl, rfl, h6⟩ := hv
  show RW G _ _ _ _ 7 _ [.ref (a6 0)] _ _ _
  refine rAstore_n dL_law_7 (Nat.le_of_ble_eq_true rfl) ?_
  refine rNew (ci := 6) (fs := [.null, .null, .null, .null, .int 0]) dL_law_8 rfl in_X6 nk_L_9 ni_X6 nn_X6 ft_X6 nd_X6 (Nat.le_of_ble_eq_true rfl) (Nat.le_of_ble_eq_true rfl) (fun a70 => ?_)
  refine rWs (ws' := (tab 47 f6) ++ tab 1 (fun _ => (a70, .inr (6, [.null, .null, .null, .null, .int 0])))) rfl ?_
  refine rDup dL_law_11 rfl ?_
  refine rCall (mc := (rmD 4 60 1000).cells) (ms := (rmD 4 60 1000).slots) (rest := [.ref a70]) (rRunI (M' := mX6_init) (As := []) dL_law_12 rfl rfl rfl mk_X6_init mi_X6_init ll_L_105 ⟨(Nat.le_of_ble_eq_true rfl), (Nat.le_of_ble_eq_true rfl)⟩ rfl (Nat.le_of_ble_eq_true rfl) (Nat.le_of_ble_eq_true rfl) (Nat.le_of_ble_eq_true rfl) i_X6) (fun v w hv => ?_)
  obtain ⟨rfl, a7, f7, rfl, rfl, h7⟩ := hv
  show RW G _ _ _ _ 15 _ [.ref (a7 0)] _ _ _
  refine rAstore_n dL_law_15 (Nat.le_of_ble_eq_true rfl) ?_
  refine rIconst (v := nI 1) dL_law_16 (by decide) ?_
  refine rIstore_n dL_law_17 (Nat.le_of_ble_eq_true rfl) ?_
  refine rIconst (v := nI 0) dL_law_18 (by decide) ?_
  refine rIstore dL_law_19 (Nat.le_of_ble_eq_true rfl) ?_
  refine rWs (world_0 h6 h7) ?_
  refine RW.widen (k := 1000) (n := 10000) (Nat.le_of_ble_eq_true rfl) (Nat.le_of_ble_eq_true rfl) ?_
  exact law_loop (V := V0 a6 a7) (lo := fun _ => 0) hL hallAt_0 hallAt_47 hfl (s := s0) (h := h0) ⟨s0_hall_0, s0_hall_47⟩ h0_good
theorem fl_0 {l : Launch} (h : l.flags = flags0) : l.stackTraces = false := by
  unfold Launch.stackTraces
  rw [h]
  decide +kernel
theorem eh_0 (l : List ExceptionTableEntry) : ∃ eh : List (Nat × Nat × Nat × Nat), l = tableOf eh := ⟨l.map (fun z => (z.startPc, z.endPc, z.handlerPc, z.catchType)), by
  unfold tableOf
  rw [List.map_map]
  exact (List.map_id l).symm⟩
/-- from the entry, for every script of at most 260 ints, the law comes to its end with true -/
theorem whole_start {p : Program} {e : Env} {s : State} {m : MethodId} {below : List Frame} {meth : Method} {c : Code} (l : Launch) (hflags : l.flags = flags0) {b L : Nat} {xs : Nat → Int32} (hL : L ≤ 260) (C0 : lw_At p s m meth c b L xs) : W p l e room_1 s m #[Value.ref b] below meth c s.heap [] 0 0 (lw_Z below #[Value.ref b] s) (entryFrame m ([Value.ref b] : List Value).toArray 7) := by
  obtain ⟨G, g1, g2, g3, g4, g5, g6⟩ := start_G l C0
  obtain ⟨hx, hb, hr, hml, hown, hts, hX, hbl, hlocks, hgv⟩ := C0
  obtain ⟨eh, he⟩ := eh_0 c.exceptionTable.toList
  subst g1
  subst g3
  have K := law_body (G := G) (nm := meth.name) (eh := eh) (by rw [g4]; exact hL) (fl_0 hflags)
  rw [lg_entry_eq]
  have K2 := K p e s m #[Value.ref (gsb G)] below meth c s.heap [] _ ⟨hx, hb, hr, hml, hown, fun w hw => hts w (gW_t hw), hlocks, he, rfl, g5, g6⟩ (fun k q h => by simp at h) ⟨fun i j p q h => by simp at h, fun k q h => by simp at h⟩ va_S.rf (gEnt_has (vs := [Value.ref (gsb G)]) (n := 7) (by intro v hv; simp only [List.mem_cons, List.not_mem_nil, or_false] at hv; subst hv; rfl) (Nat.le_of_ble_eq_true rfl))
  intro T hT X
  obtain ⟨t, a1, a2⟩ := K2 T hT X
  exact ⟨t, a1, a2 ⟨rfl, Nat.le_of_eq g2.symm⟩⟩
