/-! the law's small methods: low, cell, bench, board, units (by program) -/
theorem kc_L_7 : Cond.constant RL 7 (2147483647) ∈ gWds := gMem (i := 177) (by decide +kernel) (by rfl)
theorem kc_L_43 : Cond.constant RL 43 (-99999) ∈ gWds := gMem (i := 513) (by decide +kernel) (by rfl)
set_option maxRecDepth 100000 in
set_option maxHeartbeats 4000000 in
theorem c_L_low {G : gG} {V : wV} {lo : Nat → Int64} {s : sgT} {v : Int32} {n : Nat} (hn : 0 < n) (hn2 : n < 2 ^ 31) : CSp G V mL_low cL_low (rmD 1 0 0) [.int v, .int (nI n)] s lo (fun r => r = nI (lowN v n)) (fun _ => False) := by
  refine CSp.of (L := [some (.int v), some (.int (nI n))]) rfl (by decide +kernel) rfl (Nat.le_of_ble_eq_true rfl) rfl ?_
  refine rIload_n dL_low_0 rfl ?_
  refine rLdc (v := 2147483647) dL_low_1 kc_L_7 ?_
  refine rIand dL_low_3 ?_
  obtain ⟨j, hj, ej⟩ := low_eq (v := v)
  refine tTop (w := nI j) ej ?_
  refine rIload_n dL_low_4 rfl ?_
  refine nIrem dL_low_5 hj hn hn2 ?_
  have e : lowN v n = j % n := by
    unfold lowN
    rw [ej, nI_clamp hj]
  exact sIret dL_low_6 rfl rfl (Nat.le_of_ble_eq_true rfl) (Nat.le_of_ble_eq_true rfl) ⟨_, rfl, rfl, congrArg nI e.symm⟩
/-- the law's cell k -/
noncomputable def cellV (G : gG) (k : Nat) : Int32 := if k < gsL G then gsx G (nI k).toNatClampNeg else nI (7919 * (k + 911) * (k + 3329))
theorem c_L_cell {G : gG} {V : wV} {lo : Nat → Int64} {s : sgT} {k : Nat} (hk : k < 200) (hL : gsL G ≤ 1536) : CSp G V mL_cell cL_cell (rmD 1 0 0) [.ref (gsb G), .int (nI k)] s lo (fun r => r = cellV G k) (fun _ => False) := by
  refine CSp.of (L := [some (.ref (gsb G)), some (.int (nI k))]) rfl (by decide +kernel) rfl (Nat.le_of_ble_eq_true rfl) rfl ?_
  refine rIload_n dL_cell_0 rfl ?_
  refine rAload_n dL_cell_1 rfl ?_
  refine rSlen dL_cell_2 ?_
  refine tTop (w := nI (gsL G)) rfl ?_
  refine r_icmp_ge (tgt := 12) dL_cell_3 (by decide) (fun c => ?_) (fun c => ?_)
  · have c1 : gsL G ≤ k := (nI_leI (by omega) (by omega)).mp c
    refine rSipush (v := nI 7919) dL_cell_12 (by decide) ?_
    refine rIload_n dL_cell_15 rfl ?_
    refine rSipush (v := nI 911) dL_cell_16 (by decide) ?_
    refine nIadd dL_cell_19 ?_
    refine nImul dL_cell_20 ?_
    refine rIload_n dL_cell_21 rfl ?_
    refine rSipush (v := nI 3329) dL_cell_22 (by decide) ?_
    refine nIadd dL_cell_25 ?_
    refine nImul dL_cell_26 ?_
    exact sIret dL_cell_27 rfl rfl (Nat.le_of_ble_eq_true rfl) (Nat.le_of_ble_eq_true rfl) ⟨_, rfl, rfl, (if_neg (by omega)).symm⟩
  · have c1 : k < gsL G := Nat.lt_of_not_le (fun q => c ((nI_leI (by omega) (by omega)).mpr q))
    refine rAload_n dL_cell_6 rfl ?_
    refine rIload_n dL_cell_7 rfl ?_
    refine rSld dL_cell_8 (vp_in_nI c1 (by omega)) ?_
    refine rGoto (tgt := 27) dL_cell_9 (by decide) ?_
    exact sIret dL_cell_27 rfl rfl (Nat.le_of_ble_eq_true rfl) (Nat.le_of_ble_eq_true rfl) ⟨_, rfl, rfl, (if_pos c1).symm⟩
set_option maxRecDepth 100000 in
set_option maxHeartbeats 4000000 in
theorem c_L_bench {G : gG} {V : wV} {lo : Nat → Int64} {o : Nat} (ho : hallAt V o) {s : sgT} {h : hT} (hh : hallIs s o h) (hg : good h) (hfl : (gl G).stackTraces = false) {p : Nat} (hp : p < 4) : CSi G V mL_bench cL_bench (rmD 10 54 324) [.ref (ad V o), .int (nI p)] s lo (fun v s' => aPost o s h (nI (pBen (hY h p)).length) v s') (fun _ => False) := by
  refine CSi.of (L := [some (.ref (ad V o)), some (.int (nI p)), none]) rfl (by decide +kernel) rfl (Nat.le_of_ble_eq_true rfl) rfl ?_
  have hl : (pBen (hY h p)).length ≤ 6 := (plOk_len hg.1 hp).1
  have hu : okR (pBen (hY h p)) := (hg.1.2.2.1 p hp).2.2.2.2.2.1
  refine rIconst (v := (nI (0))) dL_bench_0 (by decide) ?_
  refine rIstore_n dL_bench_1 (by decide) ?_
  show RW G _ _ _ _ 2 [some (.ref (ad V o)), some (.int (nI p)), some (.int (nI 0))] [] _ _ _
  refine loopG (σ := sgT) (0) (0) 9 54 ((pBen (hY h p)).length) (fun i _ => [some (.ref (ad V o)), some (.int (nI p)), some (.int (nI i))]) (fun _ x => x) (fun i x => hallIs x o h ∧ hFr s x o) s ⟨hh, hFr.refl⟩ (fun i x hi hinv ih => ?_)
  show RW G _ _ _ _ 2 [some (.ref (ad V o)), some (.int (nI p)), some (.int (nI i))] [] _ _ _
  refine rIload_n dL_bench_2 rfl ?_
  refine rBipush (v := (nI (6))) dL_bench_3 (by decide) ?_
  refine r_icmp_ge (tgt := 23) dL_bench_5 (by decide) (fun c_5 => ?_) (fun c_5 => ?_)
  · have c_5 : 6 ≤ i := (nI_leI (by omega) (by omega)).mp c_5
    refine rIload_n dL_bench_23 rfl ?_
    exact sIret dL_bench_24 rfl rfl (by show 0 + 9 * i ≤ 54; omega) (by show 0 + 54 * i ≤ 324; omega) ⟨_, rfl, congrArg nI (by omega), hinv.1, hinv.2⟩
  · have c_5 : ¬ (6 ≤ i) := fun h => c_5 ((nI_leI (by omega) (by omega)).mpr h)
    refine rAload_n dL_bench_8 rfl ?_
    refine rIload_n dL_bench_9 rfl ?_
    refine rIload_n dL_bench_10 rfl ?_
    refine sCallVi (M' := mX6_benchAt) (rm' := rmD 9 9 54) (As := [.int (nI p), .int (nI i)]) (rest := []) dL_bench_11 rfl mk_X6_benchAt mi_X6_benchAt ll_L_50 ⟨(Nat.le_of_ble_eq_true rfl), (Nat.le_of_ble_eq_true rfl)⟩ ho.1 (by decide) rfl rfl (by show 0 + 9 * i + 9 ≤ 54; omega) (by show 0 + 54 * i + 54 ≤ 324; omega) (q_benchAt ho hinv.1 hg hfl hp (by omega)) rfl (Nat.le_of_ble_eq_true rfl) (fun v s1 hv => ?_)
    obtain ⟨rfl, p1, f1⟩ := hv
    have g1 := hFr.trans hinv.2 f1
    refine RW.widen (k := 0 + 9 * i + 9) (n := 0 + 54 * i + 54) (by show 0 + 9 * i + 9 ≤ _; omega) (by show 0 + 54 * i + 54 ≤ _; omega) ?_
    show RW G _ _ _ _ 14 [some (.ref (ad V o)), some (.int (nI p)), some (.int (nI i))] [.int (rowU (pBen (hY h p)) i)] _ _ _
    by_cases c : i < (pBen (hY h p)).length
    · have ev : rowU (pBen (hY h p)) i = nI ((pBen (hY h p)).getD i 0) := if_pos c
      have ho2 := hu i c
      unfold okU at ho2
      refine tTop (w := (nI ((pBen (hY h p)).getD i 0))) ev ?_
      refine r_if_lt (tgt := 23) dL_bench_14 (by decide) (fun c => absurd c (nI_pos (by omega))) (fun c => ?_)
      refine rIinc (v := (nI (i + 1))) dL_bench_17 rfl (by first | exact nI_add _ _ | rfl) (by decide) ?_
      show RW G _ _ _ _ 20 [some (.ref (ad V o)), some (.int (nI p)), some (.int (nI (i + 1)))] [] _ _ _
      refine rGoto (tgt := 2) dL_bench_20 (by decide) ?_
      exact RW.widen (k := 0 + 9 * (i + 1)) (n := 0 + 54 * (i + 1)) (by omega) (by omega) (ih (by omega) s1 ⟨p1, g1⟩)
    · have ev : rowU (pBen (hY h p)) i = -1 := if_neg c
      refine tTop (w := (-1)) ev ?_
      refine r_if_lt (tgt := 23) dL_bench_14 (by decide) (fun c => ?_) (fun c => absurd (by decide) c)
      refine rIload_n dL_bench_23 rfl ?_
      exact sIret dL_bench_24 rfl rfl (by show 0 + 9 * i + 9 ≤ 54; omega) (by show 0 + 54 * i + 54 ≤ 324; omega) ⟨_, rfl, congrArg nI (by omega), p1, g1⟩
set_option maxRecDepth 100000 in
set_option maxHeartbeats 4000000 in
theorem c_L_board {G : gG} {V : wV} {lo : Nat → Int64} {o : Nat} (ho : hallAt V o) {s : sgT} {h : hT} (hh : hallIs s o h) (hg : good h) (hfl : (gl G).stackTraces = false) {p : Nat} (hp : p < 4) : CSi G V mL_board cL_board (rmD 10 45 270) [.ref (ad V o), .int (nI p)] s lo (fun v s' => aPost o s h (nI (pBrd (hY h p)).length) v s') (fun _ => False) := by
  refine CSi.of (L := [some (.ref (ad V o)), some (.int (nI p)), none]) rfl (by decide +kernel) rfl (Nat.le_of_ble_eq_true rfl) rfl ?_
  have hl : (pBrd (hY h p)).length ≤ 5 := (plOk_len hg.1 hp).2.1
  have hu : okR (pBrd (hY h p)) := (hg.1.2.2.1 p hp).2.2.2.2.2.2.1
  refine rIconst (v := (nI (0))) dL_board_0 (by decide) ?_
  refine rIstore_n dL_board_1 (by decide) ?_
  show RW G _ _ _ _ 2 [some (.ref (ad V o)), some (.int (nI p)), some (.int (nI 0))] [] _ _ _
  refine loopG (σ := sgT) (0) (0) 9 54 ((pBrd (hY h p)).length) (fun i _ => [some (.ref (ad V o)), some (.int (nI p)), some (.int (nI i))]) (fun _ x => x) (fun i x => hallIs x o h ∧ hFr s x o) s ⟨hh, hFr.refl⟩ (fun i x hi hinv ih => ?_)
  show RW G _ _ _ _ 2 [some (.ref (ad V o)), some (.int (nI p)), some (.int (nI i))] [] _ _ _
  refine rIload_n dL_board_2 rfl ?_
  refine rIconst (v := (nI (5))) dL_board_3 (by decide) ?_
  refine r_icmp_ge (tgt := 22) dL_board_4 (by decide) (fun c_4 => ?_) (fun c_4 => ?_)
  · have c_4 : 5 ≤ i := (nI_leI (by omega) (by omega)).mp c_4
    refine rIload_n dL_board_22 rfl ?_
    exact sIret dL_board_23 rfl rfl (by show 0 + 9 * i ≤ 45; omega) (by show 0 + 54 * i ≤ 270; omega) ⟨_, rfl, congrArg nI (by omega), hinv.1, hinv.2⟩
  · have c_4 : ¬ (5 ≤ i) := fun h => c_4 ((nI_leI (by omega) (by omega)).mpr h)
    refine rAload_n dL_board_7 rfl ?_
    refine rIload_n dL_board_8 rfl ?_
    refine rIload_n dL_board_9 rfl ?_
    refine sCallVi (M' := mX6_boardAt) (rm' := rmD 9 9 54) (As := [.int (nI p), .int (nI i)]) (rest := []) dL_board_10 rfl mk_X6_boardAt mi_X6_boardAt ll_L_53 ⟨(Nat.le_of_ble_eq_true rfl), (Nat.le_of_ble_eq_true rfl)⟩ ho.1 (by decide) rfl rfl (by show 0 + 9 * i + 9 ≤ 45; omega) (by show 0 + 54 * i + 54 ≤ 270; omega) (q_boardAt ho hinv.1 hg hfl hp (by omega)) rfl (Nat.le_of_ble_eq_true rfl) (fun v s1 hv => ?_)
    obtain ⟨rfl, p1, f1⟩ := hv
    have g1 := hFr.trans hinv.2 f1
    refine RW.widen (k := 0 + 9 * i + 9) (n := 0 + 54 * i + 54) (by show 0 + 9 * i + 9 ≤ _; omega) (by show 0 + 54 * i + 54 ≤ _; omega) ?_
    show RW G _ _ _ _ 13 [some (.ref (ad V o)), some (.int (nI p)), some (.int (nI i))] [.int (rowU (pBrd (hY h p)) i)] _ _ _
    by_cases c : i < (pBrd (hY h p)).length
    · have ev : rowU (pBrd (hY h p)) i = nI ((pBrd (hY h p)).getD i 0) := if_pos c
      have ho2 := hu i c
      unfold okU at ho2
      refine tTop (w := (nI ((pBrd (hY h p)).getD i 0))) ev ?_
      refine r_if_lt (tgt := 22) dL_board_13 (by decide) (fun c => absurd c (nI_pos (by omega))) (fun c => ?_)
      refine rIinc (v := (nI (i + 1))) dL_board_16 rfl (by first | exact nI_add _ _ | rfl) (by decide) ?_
      show RW G _ _ _ _ 19 [some (.ref (ad V o)), some (.int (nI p)), some (.int (nI (i + 1)))] [] _ _ _
      refine rGoto (tgt := 2) dL_board_19 (by decide) ?_
      exact RW.widen (k := 0 + 9 * (i + 1)) (n := 0 + 54 * (i + 1)) (by omega) (by omega) (ih (by omega) s1 ⟨p1, g1⟩)
    · have ev : rowU (pBrd (hY h p)) i = -1 := if_neg c
      refine tTop (w := (-1)) ev ?_
      refine r_if_lt (tgt := 22) dL_board_13 (by decide) (fun c => ?_) (fun c => absurd (by decide) c)
      refine rIload_n dL_board_22 rfl ?_
      exact sIret dL_board_23 rfl rfl (by show 0 + 9 * i + 9 ≤ 45; omega) (by show 0 + 54 * i + 54 ≤ 270; omega) ⟨_, rfl, congrArg nI (by omega), p1, g1⟩
set_option maxRecDepth 100000 in
set_option maxHeartbeats 4000000 in
theorem c_L_units {G : gG} {V : wV} {lo : Nat → Int64} {o : Nat} (ho : hallAt V o) {s : sgT} {h : hT} (hh : hallIs s o h) (hg : good h) (hfl : (gl G).stackTraces = false) {p : Nat} (hp : p < 4) : CSi G V mL_units cL_units (rmD 10 108 648) [.ref (ad V o), .int (nI p)] s lo (fun v s' => aPost o s h (nI ((pBrd (hY h p)).length + (pBen (hY h p)).length)) v s') (fun _ => False) := by
  refine CSi.of (L := [some (.ref (ad V o)), some (.int (nI p)), none, none]) rfl (by decide +kernel) rfl (Nat.le_of_ble_eq_true rfl) rfl ?_
  have hl : (pBen (hY h p)).length ≤ 6 := (plOk_len hg.1 hp).1
  have hd : (pBrd (hY h p)).length ≤ 5 := (plOk_len hg.1 hp).2.1
  have hu : okR (pBen (hY h p)) := (hg.1.2.2.1 p hp).2.2.2.2.2.1
  have hv2 : okR (pBrd (hY h p)) := (hg.1.2.2.1 p hp).2.2.2.2.2.2.1
  refine rIconst (v := (nI (0))) dL_units_0 (by decide) ?_
  refine rIstore_n dL_units_1 (by decide) ?_
  show RW G _ _ _ _ 2 [some (.ref (ad V o)), some (.int (nI p)), some (.int (nI 0)), none] [] _ _ _
  refine rIconst (v := (nI (0))) dL_units_2 (by decide) ?_
  refine rIstore_n dL_units_3 (by decide) ?_
  show RW G _ _ _ _ 4 [some (.ref (ad V o)), some (.int (nI p)), some (.int (nI 0)), some (.int (nI 0))] [] _ _ _
  have z0 : nI 0 = nI (min 0 (pBen (hY h p)).length + min 0 (pBrd (hY h p)).length) := congrArg nI (by omega)
  have key : RW G mL_units cL_units (rmD 10 108 648) (QS G V s lo (fun v s' => ∃ r : Int32, v = some (.int r) ∧ aPost o s h (nI ((pBrd (hY h p)).length + (pBen (hY h p)).length)) r s') (fun _ => False) (rmD 10 108 648)) 4 [some (.ref (ad V o)), some (.int (nI p)), some (.int (nI (min 0 (pBen (hY h p)).length + min 0 (pBrd (hY h p)).length))), some (.int (nI 0))] [] (wS G V s lo) 0 0 := by
    refine loopG (σ := sgT) (0) (0) 18 108 (6) (fun i _ => [some (.ref (ad V o)), some (.int (nI p)), some (.int (nI (min i (pBen (hY h p)).length + min i (pBrd (hY h p)).length))), some (.int (nI i))]) (fun _ x => x) (fun i x => hallIs x o h ∧ hFr s x o) s ⟨hh, hFr.refl⟩ (fun i x hi hinv ih => ?_)
    show RW G _ _ _ _ 4 [some (.ref (ad V o)), some (.int (nI p)), some (.int (nI (min i (pBen (hY h p)).length + min i (pBrd (hY h p)).length))), some (.int (nI i))] [] _ _ _
    refine rIload_n dL_units_4 rfl ?_
    refine rBipush (v := (nI (6))) dL_units_5 (by decide) ?_
    refine r_icmp_ge (tgt := 55) dL_units_7 (by decide) (fun c_7 => ?_) (fun c_7 => ?_)
    · have c_7 : 6 ≤ i := (nI_leI (by omega) (by omega)).mp c_7
      refine rIload_n dL_units_55 rfl ?_
      exact sIret dL_units_56 rfl rfl (by show 0 + 18 * i ≤ 108; omega) (by show 0 + 108 * i ≤ 648; omega) ⟨_, rfl, congrArg nI (by omega), hinv.1, hinv.2⟩
    · have c_7 : ¬ (6 ≤ i) := fun h => c_7 ((nI_leI (by omega) (by omega)).mpr h)
      refine rIload_n dL_units_10 rfl ?_
      refine rAload_n dL_units_11 rfl ?_
      refine rIload_n dL_units_12 rfl ?_
      refine rIload_n dL_units_13 rfl ?_
      refine sCallVi (M' := mX6_benchAt) (rm' := rmD 9 9 54) (As := [.int (nI p), .int (nI i)]) (rest := [.int (nI (min i (pBen (hY h p)).length + min i (pBrd (hY h p)).length))]) dL_units_14 rfl mk_X6_benchAt mi_X6_benchAt ll_L_50 ⟨(Nat.le_of_ble_eq_true rfl), (Nat.le_of_ble_eq_true rfl)⟩ ho.1 (by decide) rfl rfl (by show 0 + 18 * i + 9 ≤ 108; omega) (by show 0 + 108 * i + 54 ≤ 648; omega) (q_benchAt ho hinv.1 hg hfl hp (by omega)) rfl (Nat.le_of_ble_eq_true rfl) (fun v s1 hv => ?_)
      obtain ⟨rfl, p1, f1⟩ := hv
      have g1 := hFr.trans hinv.2 f1
      refine RW.widen (k := 0 + 18 * i + 9) (n := 0 + 108 * i + 54) (by show 0 + 18 * i + 9 ≤ _; omega) (by show 0 + 108 * i + 54 ≤ _; omega) ?_
      show RW G _ _ _ _ 17 [some (.ref (ad V o)), some (.int (nI p)), some (.int (nI (min i (pBen (hY h p)).length + min i (pBrd (hY h p)).length))), some (.int (nI i))] [.int (rowU (pBen (hY h p)) i), .int (nI (min i (pBen (hY h p)).length + min i (pBrd (hY h p)).length))] _ _ _
      by_cases c1 : i < (pBen (hY h p)).length
      · have ev : rowU (pBen (hY h p)) i = nI ((pBen (hY h p)).getD i 0) := if_pos c1
        have ho2 := hu i c1
        unfold okU at ho2
        refine tTop (w := (nI ((pBen (hY h p)).getD i 0))) ev ?_
        refine r_if_lt (tgt := 24) dL_units_17 (by decide) (fun c => absurd c (nI_pos (by omega))) (fun c => ?_)
        refine rIconst (v := (nI (1))) dL_units_20 (by decide) ?_
        refine rGoto (tgt := 25) dL_units_21 (by decide) ?_
        refine nIadd dL_units_25 ?_
        refine rIstore_n dL_units_26 (by decide) ?_
        show RW G _ _ _ _ 27 [some (.ref (ad V o)), some (.int (nI p)), some (.int (nI ((min i (pBen (hY h p)).length + min i (pBrd (hY h p)).length) + 1))), some (.int (nI i))] [] _ _ _
        refine rIload_n dL_units_27 rfl ?_
        refine rIload_n dL_units_28 rfl ?_
        refine rIconst (v := (nI (5))) dL_units_29 (by decide) ?_
        refine r_icmp_ge (tgt := 46) dL_units_30 (by decide) (fun c_30 => ?_) (fun c_30 => ?_)
        · have c_30 : 5 ≤ i := (nI_leI (by omega) (by omega)).mp c_30
          refine rIconst (v := (nI (0))) dL_units_46 (by decide) ?_
          refine nIadd dL_units_47 ?_
          refine rIstore_n dL_units_48 (by decide) ?_
          show RW G _ _ _ _ 49 [some (.ref (ad V o)), some (.int (nI p)), some (.int (nI (((min i (pBen (hY h p)).length + min i (pBrd (hY h p)).length) + 1) + 0))), some (.int (nI i))] [] _ _ _
          refine rIinc (v := (nI (i + 1))) dL_units_49 rfl (by first | exact nI_add _ _ | rfl) (by decide) ?_
          show RW G _ _ _ _ 52 [some (.ref (ad V o)), some (.int (nI p)), some (.int (nI (((min i (pBen (hY h p)).length + min i (pBrd (hY h p)).length) + 1) + 0))), some (.int (nI (i + 1)))] [] _ _ _
          refine rGoto (tgt := 4) dL_units_52 (by decide) ?_
          rw [show ((min i (pBen (hY h p)).length + min i (pBrd (hY h p)).length) + 1) + 0 = min (i + 1) (pBen (hY h p)).length + min (i + 1) (pBrd (hY h p)).length by omega]
          exact RW.widen (k := 0 + 18 * (i + 1)) (n := 0 + 108 * (i + 1)) (by omega) (by omega) (ih (by omega) s1 ⟨p1, g1⟩)
        · have c_30 : ¬ (5 ≤ i) := fun h => c_30 ((nI_leI (by omega) (by omega)).mpr h)
          refine rAload_n dL_units_33 rfl ?_
          refine rIload_n dL_units_34 rfl ?_
          refine rIload_n dL_units_35 rfl ?_
          refine sCallVi (M' := mX6_boardAt) (rm' := rmD 9 9 54) (As := [.int (nI p), .int (nI i)]) (rest := [.int (nI ((min i (pBen (hY h p)).length + min i (pBrd (hY h p)).length) + 1))]) dL_units_36 rfl mk_X6_boardAt mi_X6_boardAt ll_L_53 ⟨(Nat.le_of_ble_eq_true rfl), (Nat.le_of_ble_eq_true rfl)⟩ ho.1 (by decide) rfl rfl (by show 0 + 18 * i + 9 + 9 ≤ 108; omega) (by show 0 + 108 * i + 54 + 54 ≤ 648; omega) (q_boardAt ho p1 hg hfl hp (by omega)) rfl (Nat.le_of_ble_eq_true rfl) (fun v s2 hv => ?_)
          obtain ⟨rfl, p2, f2⟩ := hv
          have g2 := hFr.trans g1 f2
          refine RW.widen (k := 0 + 18 * i + 18) (n := 0 + 108 * i + 108) (by show 0 + 18 * i + 9 + 9 ≤ _; omega) (by show 0 + 108 * i + 54 + 54 ≤ _; omega) ?_
          show RW G _ _ _ _ 39 [some (.ref (ad V o)), some (.int (nI p)), some (.int (nI ((min i (pBen (hY h p)).length + min i (pBrd (hY h p)).length) + 1))), some (.int (nI i))] [.int (rowU (pBrd (hY h p)) i), .int (nI ((min i (pBen (hY h p)).length + min i (pBrd (hY h p)).length) + 1))] _ _ _
          by_cases c2 : i < (pBrd (hY h p)).length
          · have ev : rowU (pBrd (hY h p)) i = nI ((pBrd (hY h p)).getD i 0) := if_pos c2
            have ho2 := hv2 i c2
            unfold okU at ho2
            refine tTop (w := (nI ((pBrd (hY h p)).getD i 0))) ev ?_
            refine r_if_lt (tgt := 46) dL_units_39 (by decide) (fun c => absurd c (nI_pos (by omega))) (fun c => ?_)
            refine rIconst (v := (nI (1))) dL_units_42 (by decide) ?_
            refine rGoto (tgt := 47) dL_units_43 (by decide) ?_
            refine nIadd dL_units_47 ?_
            refine rIstore_n dL_units_48 (by decide) ?_
            show RW G _ _ _ _ 49 [some (.ref (ad V o)), some (.int (nI p)), some (.int (nI (((min i (pBen (hY h p)).length + min i (pBrd (hY h p)).length) + 1) + 1))), some (.int (nI i))] [] _ _ _
            refine rIinc (v := (nI (i + 1))) dL_units_49 rfl (by first | exact nI_add _ _ | rfl) (by decide) ?_
            show RW G _ _ _ _ 52 [some (.ref (ad V o)), some (.int (nI p)), some (.int (nI (((min i (pBen (hY h p)).length + min i (pBrd (hY h p)).length) + 1) + 1))), some (.int (nI (i + 1)))] [] _ _ _
            refine rGoto (tgt := 4) dL_units_52 (by decide) ?_
            rw [show ((min i (pBen (hY h p)).length + min i (pBrd (hY h p)).length) + 1) + 1 = min (i + 1) (pBen (hY h p)).length + min (i + 1) (pBrd (hY h p)).length by omega]
            exact RW.widen (k := 0 + 18 * (i + 1)) (n := 0 + 108 * (i + 1)) (by omega) (by omega) (ih (by omega) s2 ⟨p2, g2⟩)
          · have ev : rowU (pBrd (hY h p)) i = -1 := if_neg c2
            refine tTop (w := (-1)) ev ?_
            refine r_if_lt (tgt := 46) dL_units_39 (by decide) (fun c => ?_) (fun c => absurd (by decide) c)
            refine rIconst (v := (nI (0))) dL_units_46 (by decide) ?_
            refine nIadd dL_units_47 ?_
            refine rIstore_n dL_units_48 (by decide) ?_
            show RW G _ _ _ _ 49 [some (.ref (ad V o)), some (.int (nI p)), some (.int (nI (((min i (pBen (hY h p)).length + min i (pBrd (hY h p)).length) + 1) + 0))), some (.int (nI i))] [] _ _ _
            refine rIinc (v := (nI (i + 1))) dL_units_49 rfl (by first | exact nI_add _ _ | rfl) (by decide) ?_
            show RW G _ _ _ _ 52 [some (.ref (ad V o)), some (.int (nI p)), some (.int (nI (((min i (pBen (hY h p)).length + min i (pBrd (hY h p)).length) + 1) + 0))), some (.int (nI (i + 1)))] [] _ _ _
            refine rGoto (tgt := 4) dL_units_52 (by decide) ?_
            rw [show ((min i (pBen (hY h p)).length + min i (pBrd (hY h p)).length) + 1) + 0 = min (i + 1) (pBen (hY h p)).length + min (i + 1) (pBrd (hY h p)).length by omega]
            exact RW.widen (k := 0 + 18 * (i + 1)) (n := 0 + 108 * (i + 1)) (by omega) (by omega) (ih (by omega) s2 ⟨p2, g2⟩)
      · have ev : rowU (pBen (hY h p)) i = -1 := if_neg c1
        refine tTop (w := (-1)) ev ?_
        refine r_if_lt (tgt := 24) dL_units_17 (by decide) (fun c => ?_) (fun c => absurd (by decide) c)
        refine rIconst (v := (nI (0))) dL_units_24 (by decide) ?_
        refine nIadd dL_units_25 ?_
        refine rIstore_n dL_units_26 (by decide) ?_
        show RW G _ _ _ _ 27 [some (.ref (ad V o)), some (.int (nI p)), some (.int (nI ((min i (pBen (hY h p)).length + min i (pBrd (hY h p)).length) + 0))), some (.int (nI i))] [] _ _ _
        refine rIload_n dL_units_27 rfl ?_
        refine rIload_n dL_units_28 rfl ?_
        refine rIconst (v := (nI (5))) dL_units_29 (by decide) ?_
        refine r_icmp_ge (tgt := 46) dL_units_30 (by decide) (fun c_30 => ?_) (fun c_30 => ?_)
        · have c_30 : 5 ≤ i := (nI_leI (by omega) (by omega)).mp c_30
          refine rIconst (v := (nI (0))) dL_units_46 (by decide) ?_
          refine nIadd dL_units_47 ?_
          refine rIstore_n dL_units_48 (by decide) ?_
          show RW G _ _ _ _ 49 [some (.ref (ad V o)), some (.int (nI p)), some (.int (nI (((min i (pBen (hY h p)).length + min i (pBrd (hY h p)).length) + 0) + 0))), some (.int (nI i))] [] _ _ _
          refine rIinc (v := (nI (i + 1))) dL_units_49 rfl (by first | exact nI_add _ _ | rfl) (by decide) ?_
          show RW G _ _ _ _ 52 [some (.ref (ad V o)), some (.int (nI p)), some (.int (nI (((min i (pBen (hY h p)).length + min i (pBrd (hY h p)).length) + 0) + 0))), some (.int (nI (i + 1)))] [] _ _ _
          refine rGoto (tgt := 4) dL_units_52 (by decide) ?_
          rw [show ((min i (pBen (hY h p)).length + min i (pBrd (hY h p)).length) + 0) + 0 = min (i + 1) (pBen (hY h p)).length + min (i + 1) (pBrd (hY h p)).length by omega]
          exact RW.widen (k := 0 + 18 * (i + 1)) (n := 0 + 108 * (i + 1)) (by omega) (by omega) (ih (by omega) s1 ⟨p1, g1⟩)
        · have c_30 : ¬ (5 ≤ i) := fun h => c_30 ((nI_leI (by omega) (by omega)).mpr h)
          refine rAload_n dL_units_33 rfl ?_
          refine rIload_n dL_units_34 rfl ?_
          refine rIload_n dL_units_35 rfl ?_
          refine sCallVi (M' := mX6_boardAt) (rm' := rmD 9 9 54) (As := [.int (nI p), .int (nI i)]) (rest := [.int (nI ((min i (pBen (hY h p)).length + min i (pBrd (hY h p)).length) + 0))]) dL_units_36 rfl mk_X6_boardAt mi_X6_boardAt ll_L_53 ⟨(Nat.le_of_ble_eq_true rfl), (Nat.le_of_ble_eq_true rfl)⟩ ho.1 (by decide) rfl rfl (by show 0 + 18 * i + 9 + 9 ≤ 108; omega) (by show 0 + 108 * i + 54 + 54 ≤ 648; omega) (q_boardAt ho p1 hg hfl hp (by omega)) rfl (Nat.le_of_ble_eq_true rfl) (fun v s2 hv => ?_)
          obtain ⟨rfl, p2, f2⟩ := hv
          have g2 := hFr.trans g1 f2
          refine RW.widen (k := 0 + 18 * i + 18) (n := 0 + 108 * i + 108) (by show 0 + 18 * i + 9 + 9 ≤ _; omega) (by show 0 + 108 * i + 54 + 54 ≤ _; omega) ?_
          show RW G _ _ _ _ 39 [some (.ref (ad V o)), some (.int (nI p)), some (.int (nI ((min i (pBen (hY h p)).length + min i (pBrd (hY h p)).length) + 0))), some (.int (nI i))] [.int (rowU (pBrd (hY h p)) i), .int (nI ((min i (pBen (hY h p)).length + min i (pBrd (hY h p)).length) + 0))] _ _ _
          by_cases c2 : i < (pBrd (hY h p)).length
          · have ev : rowU (pBrd (hY h p)) i = nI ((pBrd (hY h p)).getD i 0) := if_pos c2
            have ho2 := hv2 i c2
            unfold okU at ho2
            refine tTop (w := (nI ((pBrd (hY h p)).getD i 0))) ev ?_
            refine r_if_lt (tgt := 46) dL_units_39 (by decide) (fun c => absurd c (nI_pos (by omega))) (fun c => ?_)
            refine rIconst (v := (nI (1))) dL_units_42 (by decide) ?_
            refine rGoto (tgt := 47) dL_units_43 (by decide) ?_
            refine nIadd dL_units_47 ?_
            refine rIstore_n dL_units_48 (by decide) ?_
            show RW G _ _ _ _ 49 [some (.ref (ad V o)), some (.int (nI p)), some (.int (nI (((min i (pBen (hY h p)).length + min i (pBrd (hY h p)).length) + 0) + 1))), some (.int (nI i))] [] _ _ _
            refine rIinc (v := (nI (i + 1))) dL_units_49 rfl (by first | exact nI_add _ _ | rfl) (by decide) ?_
            show RW G _ _ _ _ 52 [some (.ref (ad V o)), some (.int (nI p)), some (.int (nI (((min i (pBen (hY h p)).length + min i (pBrd (hY h p)).length) + 0) + 1))), some (.int (nI (i + 1)))] [] _ _ _
            refine rGoto (tgt := 4) dL_units_52 (by decide) ?_
            rw [show ((min i (pBen (hY h p)).length + min i (pBrd (hY h p)).length) + 0) + 1 = min (i + 1) (pBen (hY h p)).length + min (i + 1) (pBrd (hY h p)).length by omega]
            exact RW.widen (k := 0 + 18 * (i + 1)) (n := 0 + 108 * (i + 1)) (by omega) (by omega) (ih (by omega) s2 ⟨p2, g2⟩)
          · have ev : rowU (pBrd (hY h p)) i = -1 := if_neg c2
            refine tTop (w := (-1)) ev ?_
            refine r_if_lt (tgt := 46) dL_units_39 (by decide) (fun c => ?_) (fun c => absurd (by decide) c)
            refine rIconst (v := (nI (0))) dL_units_46 (by decide) ?_
            refine nIadd dL_units_47 ?_
            refine rIstore_n dL_units_48 (by decide) ?_
            show RW G _ _ _ _ 49 [some (.ref (ad V o)), some (.int (nI p)), some (.int (nI (((min i (pBen (hY h p)).length + min i (pBrd (hY h p)).length) + 0) + 0))), some (.int (nI i))] [] _ _ _
            refine rIinc (v := (nI (i + 1))) dL_units_49 rfl (by first | exact nI_add _ _ | rfl) (by decide) ?_
            show RW G _ _ _ _ 52 [some (.ref (ad V o)), some (.int (nI p)), some (.int (nI (((min i (pBen (hY h p)).length + min i (pBrd (hY h p)).length) + 0) + 0))), some (.int (nI (i + 1)))] [] _ _ _
            refine rGoto (tgt := 4) dL_units_52 (by decide) ?_
            rw [show ((min i (pBen (hY h p)).length + min i (pBrd (hY h p)).length) + 0) + 0 = min (i + 1) (pBen (hY h p)).length + min (i + 1) (pBrd (hY h p)).length by omega]
            exact RW.widen (k := 0 + 18 * (i + 1)) (n := 0 + 108 * (i + 1)) (by omega) (by omega) (ih (by omega) s2 ⟨p2, g2⟩)
  rw [← z0] at key
  exact key
