/-! isMovedSo, isSoldSo (by program) -/
set_option maxRecDepth 100000 in
set_option maxHeartbeats 4000000 in
theorem movedN {G : gG} {V : wV} {lo : Nat → Int64} (ho : hallAt V 0) (hq : hallAt V 47) {s : sgT} {h : hT} (hw : W2 s h h) (hg : good h) (hfl : (gl G).stackTraces = false) {p j : Nat} (hp : p < 4) (hj : j < 4) (e : ¬ (fDo h 6 (nI p) (nI j)).1 = 0) : CSi G V mL_isMovedSo cL_isMovedSo (rmD 12 430 2580) [.ref (ad V 0), .ref (ad V 47), .int (nI p), .int (nI j)] s lo (fun v s' => v = nI 1 ∧ ∃ h', good h' ∧ W2 s' h' h') (fun _ => False) := by
  refine CSi.of (L := [some (.ref (ad V 0)), some (.ref (ad V 47)), some (.int (nI p)), some (.int (nI j)), none, none, none, none, none]) rfl (by decide +kernel) rfl (Nat.le_of_ble_eq_true rfl) rfl ?_
  obtain ⟨o1, o2, o3, o4, o5, o6, o7, o8, o9⟩ := hg.1.2.2.1 p hp
  have hd : (pBrd (hY h p)).length ≤ 5 := (plOk_len hg.1 hp).2.1
  have e6 := doN e
  refine rAload_n dL_isMovedSo_0 rfl ?_
  refine rIload_n dL_isMovedSo_1 rfl ?_
  refine sCallSi (M' := mL_board) (rm' := rmD 10 45 270) (As := [.ref (ad V 0), .int (nI p)]) (rest := []) dL_isMovedSo_2 rfl mk_L_board ms_L_board ll_L_80 ⟨(Nat.le_of_ble_eq_true rfl), (Nat.le_of_ble_eq_true rfl)⟩ rfl (Nat.le_of_ble_eq_true rfl) (Nat.le_of_ble_eq_true rfl) (c_L_board ho hw.1 hg hfl hp) rfl (Nat.le_of_ble_eq_true rfl) (fun v s1 hv => ?_)
  have w1 := w2_0 hw hv
  obtain ⟨rfl, -, -⟩ := hv
  refine RW.widen (k := 45) (n := 270) (Nat.le_of_ble_eq_true rfl) (Nat.le_of_ble_eq_true rfl) ?_
  show RW G _ _ _ _ 5 [some (.ref (ad V 0)), some (.ref (ad V 47)), some (.int (nI p)), some (.int (nI j)), none, none, none, none, none] [.int (nI ((pBrd (hY h p)).length))] _ _ _
  refine rIstore dL_isMovedSo_5 (by decide) ?_
  show RW G _ _ _ _ 7 [some (.ref (ad V 0)), some (.ref (ad V 47)), some (.int (nI p)), some (.int (nI j)), some (.int (nI ((pBrd (hY h p)).length))), none, none, none, none] [] _ _ _
  refine rAload_n dL_isMovedSo_7 rfl ?_
  refine rIload_n dL_isMovedSo_8 rfl ?_
  refine sCallSi (M' := mL_bench) (rm' := rmD 10 54 324) (As := [.ref (ad V 0), .int (nI p)]) (rest := []) dL_isMovedSo_9 rfl mk_L_bench ms_L_bench ll_L_87 ⟨(Nat.le_of_ble_eq_true rfl), (Nat.le_of_ble_eq_true rfl)⟩ rfl (Nat.le_of_ble_eq_true rfl) (Nat.le_of_ble_eq_true rfl) (c_L_bench ho w1.1 hg hfl hp) rfl (Nat.le_of_ble_eq_true rfl) (fun v s2 hv => ?_)
  have w2 := w2_0 w1 hv
  obtain ⟨rfl, -, -⟩ := hv
  refine RW.widen (k := 99) (n := 594) (Nat.le_of_ble_eq_true rfl) (Nat.le_of_ble_eq_true rfl) ?_
  show RW G _ _ _ _ 12 [some (.ref (ad V 0)), some (.ref (ad V 47)), some (.int (nI p)), some (.int (nI j)), some (.int (nI ((pBrd (hY h p)).length))), none, none, none, none] [.int (nI ((pBen (hY h p)).length))] _ _ _
  refine rIstore dL_isMovedSo_12 (by decide) ?_
  show RW G _ _ _ _ 14 [some (.ref (ad V 0)), some (.ref (ad V 47)), some (.int (nI p)), some (.int (nI j)), some (.int (nI ((pBrd (hY h p)).length))), some (.int (nI ((pBen (hY h p)).length))), none, none, none] [] _ _ _
  refine rIload_n dL_isMovedSo_14 rfl ?_
  refine rIload dL_isMovedSo_15 rfl ?_
  refine r_icmp_ge (tgt := 29) dL_isMovedSo_17 (by decide) (fun c_17 => ?_) (fun c_17 => ?_)
  · have c_17 : ((pBen (hY h p)).length) ≤ j := (nI_leI (by omega) (by omega)).mp c_17
    refine rIconst (v := (-1)) dL_isMovedSo_29 (by decide) ?_
    refine rIstore dL_isMovedSo_30 (by decide) ?_
    show RW G _ _ _ _ 32 [some (.ref (ad V 0)), some (.ref (ad V 47)), some (.int (nI p)), some (.int (nI j)), some (.int (nI ((pBrd (hY h p)).length))), some (.int (nI ((pBen (hY h p)).length))), some (.int (-1)), none, none] [] _ _ _
    refine rAload_n dL_isMovedSo_32 rfl ?_
    refine rBipush (v := (nI (6))) dL_isMovedSo_33 (by decide) ?_
    refine rIload_n dL_isMovedSo_35 rfl ?_
    refine rIload_n dL_isMovedSo_36 rfl ?_
    refine sCallW (M' := mL_does) (rm' := rmD 10 10 60) (As := [.ref (ad V 0), .int (nI 6), .int (nI p), .int (nI j)]) (rest := []) dL_isMovedSo_37 (by decide) mk_L_does ms_L_does lw_L_61 ⟨(Nat.le_of_ble_eq_true rfl), (Nat.le_of_ble_eq_true rfl)⟩ rfl (Nat.le_of_ble_eq_true rfl) (Nat.le_of_ble_eq_true rfl) (c_does_at ho w2.1 hg hfl (by decide) e6) rfl (Nat.le_of_ble_eq_true rfl) (fun v s3 hv => ?_)
    have w3 := w2_0 w2 hv
    obtain ⟨rfl, -, -⟩ := hv
    refine RW.widen (k := 109) (n := 654) (Nat.le_of_ble_eq_true rfl) (Nat.le_of_ble_eq_true rfl) ?_
    show RW G _ _ _ _ 40 [some (.ref (ad V 0)), some (.ref (ad V 47)), some (.int (nI p)), some (.int (nI j)), some (.int (nI ((pBrd (hY h p)).length))), some (.int (nI ((pBen (hY h p)).length))), some (.int (-1)), none, none] [.int (-99999)] _ _ _
    refine rIstore dL_isMovedSo_40 (by decide) ?_
    show RW G _ _ _ _ 42 [some (.ref (ad V 0)), some (.ref (ad V 47)), some (.int (nI p)), some (.int (nI j)), some (.int (nI ((pBrd (hY h p)).length))), some (.int (nI ((pBen (hY h p)).length))), some (.int (-1)), some (.int (-99999)), none] [] _ _ _
    refine rAload_n dL_isMovedSo_42 rfl ?_
    refine rBipush (v := (nI (6))) dL_isMovedSo_43 (by decide) ?_
    refine rIload_n dL_isMovedSo_45 rfl ?_
    refine rIload_n dL_isMovedSo_46 rfl ?_
    refine sCallW (M' := mL_does) (rm' := rmD 10 10 60) (As := [.ref (ad V 47), .int (nI 6), .int (nI p), .int (nI j)]) (rest := []) dL_isMovedSo_47 (by decide) mk_L_does ms_L_does lw_L_61 ⟨(Nat.le_of_ble_eq_true rfl), (Nat.le_of_ble_eq_true rfl)⟩ rfl (Nat.le_of_ble_eq_true rfl) (Nat.le_of_ble_eq_true rfl) (c_does_at hq w3.2 hg hfl (by decide) e6) rfl (Nat.le_of_ble_eq_true rfl) (fun v s4 hv => ?_)
    have w4 := w2_1 w3 hv
    obtain ⟨rfl, -, -⟩ := hv
    refine RW.widen (k := 119) (n := 714) (Nat.le_of_ble_eq_true rfl) (Nat.le_of_ble_eq_true rfl) ?_
    show RW G _ _ _ _ 50 [some (.ref (ad V 0)), some (.ref (ad V 47)), some (.int (nI p)), some (.int (nI j)), some (.int (nI ((pBrd (hY h p)).length))), some (.int (nI ((pBen (hY h p)).length))), some (.int (-1)), some (.int (-99999)), none] [.int (-99999)] _ _ _
    refine rIload dL_isMovedSo_50 rfl ?_
    refine r_icmp_ne (tgt := 72) dL_isMovedSo_52 (by decide) (fun c => absurd rfl c) (fun c => ?_)
    refine rIload_n dL_isMovedSo_55 rfl ?_
    refine rIload dL_isMovedSo_56 rfl ?_
    refine r_icmp_lt (tgt := 68) dL_isMovedSo_58 (by decide) (fun c => absurd ((nI_ltI (by omega) (by omega)).mp c) (by omega)) (fun c => ?_)
    refine rIload dL_isMovedSo_61 rfl ?_
    refine rLdc (v := -99999) dL_isMovedSo_63 kc_L_43 ?_
    refine r_icmp_ne (tgt := 72) dL_isMovedSo_65 (by decide) (fun c => absurd rfl c) (fun c => ?_)
    refine rIconst (v := (nI (1))) dL_isMovedSo_68 (by decide) ?_
    refine rGoto (tgt := 73) dL_isMovedSo_69 (by decide) ?_
    refine rIstore dL_isMovedSo_73 (by decide) ?_
    show RW G _ _ _ _ 75 [some (.ref (ad V 0)), some (.ref (ad V 47)), some (.int (nI p)), some (.int (nI j)), some (.int (nI ((pBrd (hY h p)).length))), some (.int (nI ((pBen (hY h p)).length))), some (.int (-1)), some (.int (-99999)), some (.int (nI 1))] [] _ _ _
    refine rIload dL_isMovedSo_75 rfl ?_
    refine rLdc (v := -99999) dL_isMovedSo_77 kc_L_43 ?_
    refine r_icmp_ne (tgt := 113) dL_isMovedSo_79 (by decide) (fun c => absurd rfl c) (fun c => ?_)
    refine rIload dL_isMovedSo_82 rfl ?_
    refine r_if_eq (tgt := 111) dL_isMovedSo_84 (by decide) (fun c => absurd c (by decide)) (fun c => ?_)
    refine rAload_n dL_isMovedSo_87 rfl ?_
    refine rIload_n dL_isMovedSo_88 rfl ?_
    refine sCallSi (M' := mL_board) (rm' := rmD 10 45 270) (As := [.ref (ad V 0), .int (nI p)]) (rest := []) dL_isMovedSo_89 rfl mk_L_board ms_L_board ll_L_80 ⟨(Nat.le_of_ble_eq_true rfl), (Nat.le_of_ble_eq_true rfl)⟩ rfl (Nat.le_of_ble_eq_true rfl) (Nat.le_of_ble_eq_true rfl) (c_L_board ho w4.1 hg hfl hp) rfl (Nat.le_of_ble_eq_true rfl) (fun v s5 hv => ?_)
    have w5 := w2_0 w4 hv
    obtain ⟨rfl, -, -⟩ := hv
    refine RW.widen (k := 164) (n := 984) (Nat.le_of_ble_eq_true rfl) (Nat.le_of_ble_eq_true rfl) ?_
    show RW G _ _ _ _ 92 [some (.ref (ad V 0)), some (.ref (ad V 47)), some (.int (nI p)), some (.int (nI j)), some (.int (nI ((pBrd (hY h p)).length))), some (.int (nI ((pBen (hY h p)).length))), some (.int (-1)), some (.int (-99999)), some (.int (nI 1))] [.int (nI ((pBrd (hY h p)).length))] _ _ _
    refine rIload dL_isMovedSo_92 rfl ?_
    refine r_icmp_ne (tgt := 111) dL_isMovedSo_94 (by decide) (fun c => absurd rfl c) (fun c => ?_)
    refine rAload_n dL_isMovedSo_97 rfl ?_
    refine rIload_n dL_isMovedSo_98 rfl ?_
    refine sCallSi (M' := mL_bench) (rm' := rmD 10 54 324) (As := [.ref (ad V 0), .int (nI p)]) (rest := []) dL_isMovedSo_99 rfl mk_L_bench ms_L_bench ll_L_87 ⟨(Nat.le_of_ble_eq_true rfl), (Nat.le_of_ble_eq_true rfl)⟩ rfl (Nat.le_of_ble_eq_true rfl) (Nat.le_of_ble_eq_true rfl) (c_L_bench ho w5.1 hg hfl hp) rfl (Nat.le_of_ble_eq_true rfl) (fun v s6 hv => ?_)
    have w6 := w2_0 w5 hv
    obtain ⟨rfl, -, -⟩ := hv
    refine RW.widen (k := 218) (n := 1308) (Nat.le_of_ble_eq_true rfl) (Nat.le_of_ble_eq_true rfl) ?_
    show RW G _ _ _ _ 102 [some (.ref (ad V 0)), some (.ref (ad V 47)), some (.int (nI p)), some (.int (nI j)), some (.int (nI ((pBrd (hY h p)).length))), some (.int (nI ((pBen (hY h p)).length))), some (.int (-1)), some (.int (-99999)), some (.int (nI 1))] [.int (nI ((pBen (hY h p)).length))] _ _ _
    refine rIload dL_isMovedSo_102 rfl ?_
    refine r_icmp_ne (tgt := 111) dL_isMovedSo_104 (by decide) (fun c => absurd rfl c) (fun c => ?_)
    refine rIconst (v := (nI (1))) dL_isMovedSo_107 (by decide) ?_
    refine rGoto (tgt := 112) dL_isMovedSo_108 (by decide) ?_
    exact sIret dL_isMovedSo_112 rfl rfl (Nat.le_of_ble_eq_true rfl) (Nat.le_of_ble_eq_true rfl) ⟨_, rfl, rfl, h, hg, w6⟩
  · have c_17 : ¬ (((pBen (hY h p)).length) ≤ j) := fun h => c_17 ((nI_leI (by omega) (by omega)).mpr h)
    refine rAload_n dL_isMovedSo_20 rfl ?_
    refine rIload_n dL_isMovedSo_21 rfl ?_
    refine rIload_n dL_isMovedSo_22 rfl ?_
    refine sCallVi (M' := mX6_benchAt) (rm' := rmD 9 9 54) (As := [.int (nI p), .int (nI j)]) (rest := []) dL_isMovedSo_23 rfl mk_X6_benchAt mi_X6_benchAt ll_L_50 ⟨(Nat.le_of_ble_eq_true rfl), (Nat.le_of_ble_eq_true rfl)⟩ ho.1 (by decide) rfl rfl (Nat.le_of_ble_eq_true rfl) (Nat.le_of_ble_eq_true rfl) (q_benchAt ho w2.1 hg hfl hp (by omega)) rfl (Nat.le_of_ble_eq_true rfl) (fun v s3 hv => ?_)
    have w3 := w2_0 w2 hv
    obtain ⟨rfl, -, -⟩ := hv
    refine RW.widen (k := 108) (n := 648) (Nat.le_of_ble_eq_true rfl) (Nat.le_of_ble_eq_true rfl) ?_
    show RW G _ _ _ _ 26 [some (.ref (ad V 0)), some (.ref (ad V 47)), some (.int (nI p)), some (.int (nI j)), some (.int (nI ((pBrd (hY h p)).length))), some (.int (nI ((pBen (hY h p)).length))), none, none, none] [.int (rowU (pBen (hY h p)) j)] _ _ _
    refine rGoto (tgt := 30) dL_isMovedSo_26 (by decide) ?_
    refine rIstore dL_isMovedSo_30 (by decide) ?_
    show RW G _ _ _ _ 32 [some (.ref (ad V 0)), some (.ref (ad V 47)), some (.int (nI p)), some (.int (nI j)), some (.int (nI ((pBrd (hY h p)).length))), some (.int (nI ((pBen (hY h p)).length))), some (.int (rowU (pBen (hY h p)) j)), none, none] [] _ _ _
    refine rAload_n dL_isMovedSo_32 rfl ?_
    refine rBipush (v := (nI (6))) dL_isMovedSo_33 (by decide) ?_
    refine rIload_n dL_isMovedSo_35 rfl ?_
    refine rIload_n dL_isMovedSo_36 rfl ?_
    refine sCallW (M' := mL_does) (rm' := rmD 10 10 60) (As := [.ref (ad V 0), .int (nI 6), .int (nI p), .int (nI j)]) (rest := []) dL_isMovedSo_37 (by decide) mk_L_does ms_L_does lw_L_61 ⟨(Nat.le_of_ble_eq_true rfl), (Nat.le_of_ble_eq_true rfl)⟩ rfl (Nat.le_of_ble_eq_true rfl) (Nat.le_of_ble_eq_true rfl) (c_does_at ho w3.1 hg hfl (by decide) e6) rfl (Nat.le_of_ble_eq_true rfl) (fun v s4 hv => ?_)
    have w4 := w2_0 w3 hv
    obtain ⟨rfl, -, -⟩ := hv
    refine RW.widen (k := 118) (n := 708) (Nat.le_of_ble_eq_true rfl) (Nat.le_of_ble_eq_true rfl) ?_
    show RW G _ _ _ _ 40 [some (.ref (ad V 0)), some (.ref (ad V 47)), some (.int (nI p)), some (.int (nI j)), some (.int (nI ((pBrd (hY h p)).length))), some (.int (nI ((pBen (hY h p)).length))), some (.int (rowU (pBen (hY h p)) j)), none, none] [.int (-99999)] _ _ _
    refine rIstore dL_isMovedSo_40 (by decide) ?_
    show RW G _ _ _ _ 42 [some (.ref (ad V 0)), some (.ref (ad V 47)), some (.int (nI p)), some (.int (nI j)), some (.int (nI ((pBrd (hY h p)).length))), some (.int (nI ((pBen (hY h p)).length))), some (.int (rowU (pBen (hY h p)) j)), some (.int (-99999)), none] [] _ _ _
    refine rAload_n dL_isMovedSo_42 rfl ?_
    refine rBipush (v := (nI (6))) dL_isMovedSo_43 (by decide) ?_
    refine rIload_n dL_isMovedSo_45 rfl ?_
    refine rIload_n dL_isMovedSo_46 rfl ?_
    refine sCallW (M' := mL_does) (rm' := rmD 10 10 60) (As := [.ref (ad V 47), .int (nI 6), .int (nI p), .int (nI j)]) (rest := []) dL_isMovedSo_47 (by decide) mk_L_does ms_L_does lw_L_61 ⟨(Nat.le_of_ble_eq_true rfl), (Nat.le_of_ble_eq_true rfl)⟩ rfl (Nat.le_of_ble_eq_true rfl) (Nat.le_of_ble_eq_true rfl) (c_does_at hq w4.2 hg hfl (by decide) e6) rfl (Nat.le_of_ble_eq_true rfl) (fun v s5 hv => ?_)
    have w5 := w2_1 w4 hv
    obtain ⟨rfl, -, -⟩ := hv
    refine RW.widen (k := 128) (n := 768) (Nat.le_of_ble_eq_true rfl) (Nat.le_of_ble_eq_true rfl) ?_
    show RW G _ _ _ _ 50 [some (.ref (ad V 0)), some (.ref (ad V 47)), some (.int (nI p)), some (.int (nI j)), some (.int (nI ((pBrd (hY h p)).length))), some (.int (nI ((pBen (hY h p)).length))), some (.int (rowU (pBen (hY h p)) j)), some (.int (-99999)), none] [.int (-99999)] _ _ _
    refine rIload dL_isMovedSo_50 rfl ?_
    refine r_icmp_ne (tgt := 72) dL_isMovedSo_52 (by decide) (fun c => absurd rfl c) (fun c => ?_)
    refine rIload_n dL_isMovedSo_55 rfl ?_
    refine rIload dL_isMovedSo_56 rfl ?_
    refine r_icmp_lt (tgt := 68) dL_isMovedSo_58 (by decide) (fun c => ?_) (fun c => absurd ((nI_ltI (by omega) (by omega)).mpr (by omega)) c)
    refine rIconst (v := (nI (1))) dL_isMovedSo_68 (by decide) ?_
    refine rGoto (tgt := 73) dL_isMovedSo_69 (by decide) ?_
    refine rIstore dL_isMovedSo_73 (by decide) ?_
    show RW G _ _ _ _ 75 [some (.ref (ad V 0)), some (.ref (ad V 47)), some (.int (nI p)), some (.int (nI j)), some (.int (nI ((pBrd (hY h p)).length))), some (.int (nI ((pBen (hY h p)).length))), some (.int (rowU (pBen (hY h p)) j)), some (.int (-99999)), some (.int (nI 1))] [] _ _ _
    refine rIload dL_isMovedSo_75 rfl ?_
    refine rLdc (v := -99999) dL_isMovedSo_77 kc_L_43 ?_
    refine r_icmp_ne (tgt := 113) dL_isMovedSo_79 (by decide) (fun c => absurd rfl c) (fun c => ?_)
    refine rIload dL_isMovedSo_82 rfl ?_
    refine r_if_eq (tgt := 111) dL_isMovedSo_84 (by decide) (fun c => absurd c (by decide)) (fun c => ?_)
    refine rAload_n dL_isMovedSo_87 rfl ?_
    refine rIload_n dL_isMovedSo_88 rfl ?_
    refine sCallSi (M' := mL_board) (rm' := rmD 10 45 270) (As := [.ref (ad V 0), .int (nI p)]) (rest := []) dL_isMovedSo_89 rfl mk_L_board ms_L_board ll_L_80 ⟨(Nat.le_of_ble_eq_true rfl), (Nat.le_of_ble_eq_true rfl)⟩ rfl (Nat.le_of_ble_eq_true rfl) (Nat.le_of_ble_eq_true rfl) (c_L_board ho w5.1 hg hfl hp) rfl (Nat.le_of_ble_eq_true rfl) (fun v s6 hv => ?_)
    have w6 := w2_0 w5 hv
    obtain ⟨rfl, -, -⟩ := hv
    refine RW.widen (k := 173) (n := 1038) (Nat.le_of_ble_eq_true rfl) (Nat.le_of_ble_eq_true rfl) ?_
    show RW G _ _ _ _ 92 [some (.ref (ad V 0)), some (.ref (ad V 47)), some (.int (nI p)), some (.int (nI j)), some (.int (nI ((pBrd (hY h p)).length))), some (.int (nI ((pBen (hY h p)).length))), some (.int (rowU (pBen (hY h p)) j)), some (.int (-99999)), some (.int (nI 1))] [.int (nI ((pBrd (hY h p)).length))] _ _ _
    refine rIload dL_isMovedSo_92 rfl ?_
    refine r_icmp_ne (tgt := 111) dL_isMovedSo_94 (by decide) (fun c => absurd rfl c) (fun c => ?_)
    refine rAload_n dL_isMovedSo_97 rfl ?_
    refine rIload_n dL_isMovedSo_98 rfl ?_
    refine sCallSi (M' := mL_bench) (rm' := rmD 10 54 324) (As := [.ref (ad V 0), .int (nI p)]) (rest := []) dL_isMovedSo_99 rfl mk_L_bench ms_L_bench ll_L_87 ⟨(Nat.le_of_ble_eq_true rfl), (Nat.le_of_ble_eq_true rfl)⟩ rfl (Nat.le_of_ble_eq_true rfl) (Nat.le_of_ble_eq_true rfl) (c_L_bench ho w6.1 hg hfl hp) rfl (Nat.le_of_ble_eq_true rfl) (fun v s7 hv => ?_)
    have w7 := w2_0 w6 hv
    obtain ⟨rfl, -, -⟩ := hv
    refine RW.widen (k := 227) (n := 1362) (Nat.le_of_ble_eq_true rfl) (Nat.le_of_ble_eq_true rfl) ?_
    show RW G _ _ _ _ 102 [some (.ref (ad V 0)), some (.ref (ad V 47)), some (.int (nI p)), some (.int (nI j)), some (.int (nI ((pBrd (hY h p)).length))), some (.int (nI ((pBen (hY h p)).length))), some (.int (rowU (pBen (hY h p)) j)), some (.int (-99999)), some (.int (nI 1))] [.int (nI ((pBen (hY h p)).length))] _ _ _
    refine rIload dL_isMovedSo_102 rfl ?_
    refine r_icmp_ne (tgt := 111) dL_isMovedSo_104 (by decide) (fun c => absurd rfl c) (fun c => ?_)
    refine rIconst (v := (nI (1))) dL_isMovedSo_107 (by decide) ?_
    refine rGoto (tgt := 112) dL_isMovedSo_108 (by decide) ?_
    exact sIret dL_isMovedSo_112 rfl rfl (Nat.le_of_ble_eq_true rfl) (Nat.le_of_ble_eq_true rfl) ⟨_, rfl, rfl, h, hg, w7⟩
set_option maxRecDepth 100000 in
set_option maxHeartbeats 4000000 in
theorem movedY {G : gG} {V : wV} {lo : Nat → Int64} (ho : hallAt V 0) (hq : hallAt V 47) {s : sgT} {h : hT} (hw : W2 s h h) (hg : good h) (hfl : (gl G).stackTraces = false) {p j : Nat} (hp : p < 4) (hj : j < 4) (e : (fDo h 6 (nI p) (nI j)).1 = 0) : CSi G V mL_isMovedSo cL_isMovedSo (rmD 12 430 2580) [.ref (ad V 0), .ref (ad V 47), .int (nI p), .int (nI j)] s lo (fun v s' => v = nI 1 ∧ ∃ h', good h' ∧ W2 s' h' h') (fun _ => False) := by
  refine CSi.of (L := [some (.ref (ad V 0)), some (.ref (ad V 47)), some (.int (nI p)), some (.int (nI j)), none, none, none, none, none]) rfl (by decide +kernel) rfl (Nat.le_of_ble_eq_true rfl) rfl ?_
  obtain ⟨o1, o2, o3, o4, o5, o6, o7, o8, o9⟩ := hg.1.2.2.1 p hp
  have hd : (pBrd (hY h p)).length ≤ 5 := (plOk_len hg.1 hp).2.1
  obtain ⟨hjB, hD5, eq6⟩ := bd_yes hg hp hj e
  have e6 := doY eq6
  have g6 : good (moB h p j) := gd_at hg e6
  have e7 := doY (bk_yes hg hp hjB)
  have g7 : good (baB h p j) := gd_at g6 e7
  obtain ⟨m1, m2⟩ := mo_at (h := h) (p := p) (j := j)
  obtain ⟨b1, b2⟩ := ba_at (h := h) (p := p) (j := j)
  have hle : ((pBen (hY h p)).eraseIdx j).length = (pBen (hY h p)).length - 1 := by have := era_len hjB; omega
  obtain ⟨u, eu⟩ : ∃ u, u = (pBen (hY h p)).getD j 0 := ⟨_, rfl⟩
  refine rAload_n dL_isMovedSo_0 rfl ?_
  refine rIload_n dL_isMovedSo_1 rfl ?_
  refine sCallSi (M' := mL_board) (rm' := rmD 10 45 270) (As := [.ref (ad V 0), .int (nI p)]) (rest := []) dL_isMovedSo_2 rfl mk_L_board ms_L_board ll_L_80 ⟨(Nat.le_of_ble_eq_true rfl), (Nat.le_of_ble_eq_true rfl)⟩ rfl (Nat.le_of_ble_eq_true rfl) (Nat.le_of_ble_eq_true rfl) (c_L_board ho hw.1 hg hfl hp) rfl (Nat.le_of_ble_eq_true rfl) (fun v s1 hv => ?_)
  have w1 := w2_0 hw hv
  obtain ⟨rfl, -, -⟩ := hv
  refine RW.widen (k := 45) (n := 270) (Nat.le_of_ble_eq_true rfl) (Nat.le_of_ble_eq_true rfl) ?_
  show RW G _ _ _ _ 5 [some (.ref (ad V 0)), some (.ref (ad V 47)), some (.int (nI p)), some (.int (nI j)), none, none, none, none, none] [.int (nI ((pBrd (hY h p)).length))] _ _ _
  refine rIstore dL_isMovedSo_5 (by decide) ?_
  show RW G _ _ _ _ 7 [some (.ref (ad V 0)), some (.ref (ad V 47)), some (.int (nI p)), some (.int (nI j)), some (.int (nI ((pBrd (hY h p)).length))), none, none, none, none] [] _ _ _
  refine rAload_n dL_isMovedSo_7 rfl ?_
  refine rIload_n dL_isMovedSo_8 rfl ?_
  refine sCallSi (M' := mL_bench) (rm' := rmD 10 54 324) (As := [.ref (ad V 0), .int (nI p)]) (rest := []) dL_isMovedSo_9 rfl mk_L_bench ms_L_bench ll_L_87 ⟨(Nat.le_of_ble_eq_true rfl), (Nat.le_of_ble_eq_true rfl)⟩ rfl (Nat.le_of_ble_eq_true rfl) (Nat.le_of_ble_eq_true rfl) (c_L_bench ho w1.1 hg hfl hp) rfl (Nat.le_of_ble_eq_true rfl) (fun v s2 hv => ?_)
  have w2 := w2_0 w1 hv
  obtain ⟨rfl, -, -⟩ := hv
  refine RW.widen (k := 99) (n := 594) (Nat.le_of_ble_eq_true rfl) (Nat.le_of_ble_eq_true rfl) ?_
  show RW G _ _ _ _ 12 [some (.ref (ad V 0)), some (.ref (ad V 47)), some (.int (nI p)), some (.int (nI j)), some (.int (nI ((pBrd (hY h p)).length))), none, none, none, none] [.int (nI ((pBen (hY h p)).length))] _ _ _
  refine rIstore dL_isMovedSo_12 (by decide) ?_
  show RW G _ _ _ _ 14 [some (.ref (ad V 0)), some (.ref (ad V 47)), some (.int (nI p)), some (.int (nI j)), some (.int (nI ((pBrd (hY h p)).length))), some (.int (nI ((pBen (hY h p)).length))), none, none, none] [] _ _ _
  refine rIload_n dL_isMovedSo_14 rfl ?_
  refine rIload dL_isMovedSo_15 rfl ?_
  refine r_icmp_ge (tgt := 29) dL_isMovedSo_17 (by decide) (fun c => absurd c (nI_ge (by omega) (by omega))) (fun c => ?_)
  refine rAload_n dL_isMovedSo_20 rfl ?_
  refine rIload_n dL_isMovedSo_21 rfl ?_
  refine rIload_n dL_isMovedSo_22 rfl ?_
  refine sCallVi (M' := mX6_benchAt) (rm' := rmD 9 9 54) (As := [.int (nI p), .int (nI j)]) (rest := []) dL_isMovedSo_23 rfl mk_X6_benchAt mi_X6_benchAt ll_L_50 ⟨(Nat.le_of_ble_eq_true rfl), (Nat.le_of_ble_eq_true rfl)⟩ ho.1 (by decide) rfl rfl (Nat.le_of_ble_eq_true rfl) (Nat.le_of_ble_eq_true rfl) (q_benchAt ho w2.1 hg hfl hp (by omega)) rfl (Nat.le_of_ble_eq_true rfl) (fun v s3 hv => ?_)
  have w3 := w2_0 w2 hv
  obtain ⟨rfl, -, -⟩ := hv
  refine RW.widen (k := 108) (n := 648) (Nat.le_of_ble_eq_true rfl) (Nat.le_of_ble_eq_true rfl) ?_
  show RW G _ _ _ _ 26 [some (.ref (ad V 0)), some (.ref (ad V 47)), some (.int (nI p)), some (.int (nI j)), some (.int (nI ((pBrd (hY h p)).length))), some (.int (nI ((pBen (hY h p)).length))), none, none, none] [.int (rowU (pBen (hY h p)) j)] _ _ _
  refine tTop (w := (nI (u))) ((if_pos hjB).trans (congrArg nI eu.symm)) ?_
  refine rGoto (tgt := 30) dL_isMovedSo_26 (by decide) ?_
  refine rIstore dL_isMovedSo_30 (by decide) ?_
  show RW G _ _ _ _ 32 [some (.ref (ad V 0)), some (.ref (ad V 47)), some (.int (nI p)), some (.int (nI j)), some (.int (nI ((pBrd (hY h p)).length))), some (.int (nI ((pBen (hY h p)).length))), some (.int (nI u)), none, none] [] _ _ _
  refine rAload_n dL_isMovedSo_32 rfl ?_
  refine rBipush (v := (nI (6))) dL_isMovedSo_33 (by decide) ?_
  refine rIload_n dL_isMovedSo_35 rfl ?_
  refine rIload_n dL_isMovedSo_36 rfl ?_
  refine sCallW (M' := mL_does) (rm' := rmD 10 10 60) (As := [.ref (ad V 0), .int (nI 6), .int (nI p), .int (nI j)]) (rest := []) dL_isMovedSo_37 (by decide) mk_L_does ms_L_does lw_L_61 ⟨(Nat.le_of_ble_eq_true rfl), (Nat.le_of_ble_eq_true rfl)⟩ rfl (Nat.le_of_ble_eq_true rfl) (Nat.le_of_ble_eq_true rfl) (c_does_at ho w3.1 hg hfl (by decide) e6) rfl (Nat.le_of_ble_eq_true rfl) (fun v s4 hv => ?_)
  have w4 := w2_0 w3 hv
  obtain ⟨rfl, -, -⟩ := hv
  refine RW.widen (k := 118) (n := 708) (Nat.le_of_ble_eq_true rfl) (Nat.le_of_ble_eq_true rfl) ?_
  show RW G _ _ _ _ 40 [some (.ref (ad V 0)), some (.ref (ad V 47)), some (.int (nI p)), some (.int (nI j)), some (.int (nI ((pBrd (hY h p)).length))), some (.int (nI ((pBen (hY h p)).length))), some (.int (nI u)), none, none] [.int (nI ((pBrd (hY h p)).length + 1))] _ _ _
  refine rIstore dL_isMovedSo_40 (by decide) ?_
  show RW G _ _ _ _ 42 [some (.ref (ad V 0)), some (.ref (ad V 47)), some (.int (nI p)), some (.int (nI j)), some (.int (nI ((pBrd (hY h p)).length))), some (.int (nI ((pBen (hY h p)).length))), some (.int (nI u)), some (.int (nI ((pBrd (hY h p)).length + 1))), none] [] _ _ _
  refine rAload_n dL_isMovedSo_42 rfl ?_
  refine rBipush (v := (nI (6))) dL_isMovedSo_43 (by decide) ?_
  refine rIload_n dL_isMovedSo_45 rfl ?_
  refine rIload_n dL_isMovedSo_46 rfl ?_
  refine sCallW (M' := mL_does) (rm' := rmD 10 10 60) (As := [.ref (ad V 47), .int (nI 6), .int (nI p), .int (nI j)]) (rest := []) dL_isMovedSo_47 (by decide) mk_L_does ms_L_does lw_L_61 ⟨(Nat.le_of_ble_eq_true rfl), (Nat.le_of_ble_eq_true rfl)⟩ rfl (Nat.le_of_ble_eq_true rfl) (Nat.le_of_ble_eq_true rfl) (c_does_at hq w4.2 hg hfl (by decide) e6) rfl (Nat.le_of_ble_eq_true rfl) (fun v s5 hv => ?_)
  have w5 := w2_1 w4 hv
  obtain ⟨rfl, -, -⟩ := hv
  refine RW.widen (k := 128) (n := 768) (Nat.le_of_ble_eq_true rfl) (Nat.le_of_ble_eq_true rfl) ?_
  show RW G _ _ _ _ 50 [some (.ref (ad V 0)), some (.ref (ad V 47)), some (.int (nI p)), some (.int (nI j)), some (.int (nI ((pBrd (hY h p)).length))), some (.int (nI ((pBen (hY h p)).length))), some (.int (nI u)), some (.int (nI ((pBrd (hY h p)).length + 1))), none] [.int (nI ((pBrd (hY h p)).length + 1))] _ _ _
  refine rIload dL_isMovedSo_50 rfl ?_
  refine r_icmp_ne (tgt := 72) dL_isMovedSo_52 (by decide) (fun c => absurd rfl c) (fun c => ?_)
  refine rIload_n dL_isMovedSo_55 rfl ?_
  refine rIload dL_isMovedSo_56 rfl ?_
  refine r_icmp_lt (tgt := 68) dL_isMovedSo_58 (by decide) (fun c => ?_) (fun c => absurd (nI_lt hjB (by omega)) c)
  refine rIconst (v := (nI (1))) dL_isMovedSo_68 (by decide) ?_
  refine rGoto (tgt := 73) dL_isMovedSo_69 (by decide) ?_
  refine rIstore dL_isMovedSo_73 (by decide) ?_
  show RW G _ _ _ _ 75 [some (.ref (ad V 0)), some (.ref (ad V 47)), some (.int (nI p)), some (.int (nI j)), some (.int (nI ((pBrd (hY h p)).length))), some (.int (nI ((pBen (hY h p)).length))), some (.int (nI u)), some (.int (nI ((pBrd (hY h p)).length + 1))), some (.int (nI 1))] [] _ _ _
  refine rIload dL_isMovedSo_75 rfl ?_
  refine rLdc (v := -99999) dL_isMovedSo_77 kc_L_43 ?_
  refine r_icmp_ne (tgt := 113) dL_isMovedSo_79 (by decide) (fun c => ?_) (fun c => absurd c (nI_m9 (by omega)))
  refine rIload dL_isMovedSo_113 rfl ?_
  refine r_if_eq (tgt := 169) dL_isMovedSo_115 (by decide) (fun c => absurd c (by decide)) (fun c => ?_)
  refine rIload dL_isMovedSo_118 rfl ?_
  refine rIload dL_isMovedSo_120 rfl ?_
  refine rIconst (v := (nI (1))) dL_isMovedSo_122 (by decide) ?_
  refine nIadd dL_isMovedSo_123 ?_
  refine r_icmp_ne (tgt := 169) dL_isMovedSo_124 (by decide) (fun c => absurd rfl c) (fun c => ?_)
  refine rAload_n dL_isMovedSo_127 rfl ?_
  refine rIload_n dL_isMovedSo_128 rfl ?_
  refine rIload dL_isMovedSo_129 rfl ?_
  refine sCallVi (M' := mX6_boardAt) (rm' := rmD 9 9 54) (As := [.int (nI p), .int (nI ((pBrd (hY h p)).length))]) (rest := []) dL_isMovedSo_131 rfl mk_X6_boardAt mi_X6_boardAt ll_L_53 ⟨(Nat.le_of_ble_eq_true rfl), (Nat.le_of_ble_eq_true rfl)⟩ ho.1 (by decide) rfl rfl (Nat.le_of_ble_eq_true rfl) (Nat.le_of_ble_eq_true rfl) (q_boardAt ho w5.1 g6 hfl hp (by omega)) rfl (Nat.le_of_ble_eq_true rfl) (fun v s6 hv => ?_)
  have w6 := w2_0 w5 hv
  obtain ⟨rfl, -, -⟩ := hv
  refine RW.widen (k := 137) (n := 822) (Nat.le_of_ble_eq_true rfl) (Nat.le_of_ble_eq_true rfl) ?_
  show RW G _ _ _ _ 134 [some (.ref (ad V 0)), some (.ref (ad V 47)), some (.int (nI p)), some (.int (nI j)), some (.int (nI ((pBrd (hY h p)).length))), some (.int (nI ((pBen (hY h p)).length))), some (.int (nI u)), some (.int (nI ((pBrd (hY h p)).length + 1))), some (.int (nI 1))] [.int (rowU (pBrd (hY (moB h p j) p)) ((pBrd (hY h p)).length))] _ _ _
  refine tTop (w := (nI (u))) (by rw [m1]; exact (if_pos (by rw [List.length_append]; exact Nat.lt_succ_self _)).trans (congrArg nI (app_last.trans eu.symm))) ?_
  refine rIload dL_isMovedSo_134 rfl ?_
  refine r_icmp_ne (tgt := 169) dL_isMovedSo_136 (by decide) (fun c => absurd rfl c) (fun c => ?_)
  refine rAload_n dL_isMovedSo_139 rfl ?_
  refine rIload_n dL_isMovedSo_140 rfl ?_
  refine sCallSi (M' := mL_bench) (rm' := rmD 10 54 324) (As := [.ref (ad V 0), .int (nI p)]) (rest := []) dL_isMovedSo_141 rfl mk_L_bench ms_L_bench ll_L_87 ⟨(Nat.le_of_ble_eq_true rfl), (Nat.le_of_ble_eq_true rfl)⟩ rfl (Nat.le_of_ble_eq_true rfl) (Nat.le_of_ble_eq_true rfl) (c_L_bench ho w6.1 g6 hfl hp) rfl (Nat.le_of_ble_eq_true rfl) (fun v s7 hv => ?_)
  have w7 := w2_0 w6 hv
  obtain ⟨rfl, -, -⟩ := hv
  refine RW.widen (k := 191) (n := 1146) (Nat.le_of_ble_eq_true rfl) (Nat.le_of_ble_eq_true rfl) ?_
  show RW G _ _ _ _ 144 [some (.ref (ad V 0)), some (.ref (ad V 47)), some (.int (nI p)), some (.int (nI j)), some (.int (nI ((pBrd (hY h p)).length))), some (.int (nI ((pBen (hY h p)).length))), some (.int (nI u)), some (.int (nI ((pBrd (hY h p)).length + 1))), some (.int (nI 1))] [.int (nI ((pBen (hY (moB h p j) p)).length))] _ _ _
  refine tTop (w := (nI ((pBen (hY h p)).length - 1))) (congrArg nI (by rw [m2, hle])) ?_
  refine rIload dL_isMovedSo_144 rfl ?_
  refine rIconst (v := (nI (1))) dL_isMovedSo_146 (by decide) ?_
  refine nIsub dL_isMovedSo_147 (by omega) ?_
  refine r_icmp_ne (tgt := 169) dL_isMovedSo_148 (by decide) (fun c => absurd rfl c) (fun c => ?_)
  refine rAload_n dL_isMovedSo_151 rfl ?_
  refine rBipush (v := (nI (7))) dL_isMovedSo_152 (by decide) ?_
  refine rIload_n dL_isMovedSo_154 rfl ?_
  refine rIload dL_isMovedSo_155 rfl ?_
  refine sCallW (M' := mL_does) (rm' := rmD 10 10 60) (As := [.ref (ad V 0), .int (nI 7), .int (nI p), .int (nI ((pBrd (hY h p)).length))]) (rest := []) dL_isMovedSo_157 (by decide) mk_L_does ms_L_does lw_L_61 ⟨(Nat.le_of_ble_eq_true rfl), (Nat.le_of_ble_eq_true rfl)⟩ rfl (Nat.le_of_ble_eq_true rfl) (Nat.le_of_ble_eq_true rfl) (c_does_at ho w7.1 g6 hfl (by decide) e7) rfl (Nat.le_of_ble_eq_true rfl) (fun v s8 hv => ?_)
  have w8 := w2_0 w7 hv
  obtain ⟨rfl, -, -⟩ := hv
  refine RW.widen (k := 201) (n := 1206) (Nat.le_of_ble_eq_true rfl) (Nat.le_of_ble_eq_true rfl) ?_
  show RW G _ _ _ _ 160 [some (.ref (ad V 0)), some (.ref (ad V 47)), some (.int (nI p)), some (.int (nI j)), some (.int (nI ((pBrd (hY h p)).length))), some (.int (nI ((pBen (hY h p)).length))), some (.int (nI u)), some (.int (nI ((pBrd (hY h p)).length + 1))), some (.int (nI 1))] [.int (nI ((pBen (hY h p)).length))] _ _ _
  refine rIload dL_isMovedSo_160 rfl ?_
  refine r_icmp_ne (tgt := 169) dL_isMovedSo_162 (by decide) (fun c => absurd rfl c) (fun c => ?_)
  refine rIconst (v := (nI (1))) dL_isMovedSo_165 (by decide) ?_
  refine rGoto (tgt := 170) dL_isMovedSo_166 (by decide) ?_
  refine rIstore dL_isMovedSo_170 (by decide) ?_
  show RW G _ _ _ _ 172 [some (.ref (ad V 0)), some (.ref (ad V 47)), some (.int (nI p)), some (.int (nI j)), some (.int (nI ((pBrd (hY h p)).length))), some (.int (nI ((pBen (hY h p)).length))), some (.int (nI u)), some (.int (nI ((pBrd (hY h p)).length + 1))), some (.int (nI 1))] [] _ _ _
  refine rIload dL_isMovedSo_172 rfl ?_
  refine r_if_eq (tgt := 219) dL_isMovedSo_174 (by decide) (fun c => absurd c (by decide)) (fun c => ?_)
  refine rAload_n dL_isMovedSo_177 rfl ?_
  refine rBipush (v := (nI (7))) dL_isMovedSo_178 (by decide) ?_
  refine rIload_n dL_isMovedSo_180 rfl ?_
  refine rIload dL_isMovedSo_181 rfl ?_
  refine sCallW (M' := mL_does) (rm' := rmD 10 10 60) (As := [.ref (ad V 47), .int (nI 7), .int (nI p), .int (nI ((pBrd (hY h p)).length))]) (rest := []) dL_isMovedSo_183 (by decide) mk_L_does ms_L_does lw_L_61 ⟨(Nat.le_of_ble_eq_true rfl), (Nat.le_of_ble_eq_true rfl)⟩ rfl (Nat.le_of_ble_eq_true rfl) (Nat.le_of_ble_eq_true rfl) (c_does_at hq w8.2 g6 hfl (by decide) e7) rfl (Nat.le_of_ble_eq_true rfl) (fun v s9 hv => ?_)
  have w9 := w2_1 w8 hv
  obtain ⟨rfl, -, -⟩ := hv
  refine RW.widen (k := 211) (n := 1266) (Nat.le_of_ble_eq_true rfl) (Nat.le_of_ble_eq_true rfl) ?_
  show RW G _ _ _ _ 186 [some (.ref (ad V 0)), some (.ref (ad V 47)), some (.int (nI p)), some (.int (nI j)), some (.int (nI ((pBrd (hY h p)).length))), some (.int (nI ((pBen (hY h p)).length))), some (.int (nI u)), some (.int (nI ((pBrd (hY h p)).length + 1))), some (.int (nI 1))] [.int (nI ((pBen (hY h p)).length))] _ _ _
  refine rIload dL_isMovedSo_186 rfl ?_
  refine r_icmp_ne (tgt := 219) dL_isMovedSo_188 (by decide) (fun c => absurd rfl c) (fun c => ?_)
  refine rAload_n dL_isMovedSo_191 rfl ?_
  refine rIload_n dL_isMovedSo_192 rfl ?_
  refine rIload dL_isMovedSo_193 rfl ?_
  refine rIconst (v := (nI (1))) dL_isMovedSo_195 (by decide) ?_
  refine nIsub dL_isMovedSo_196 (by omega) ?_
  refine sCallVi (M' := mX6_benchAt) (rm' := rmD 9 9 54) (As := [.int (nI p), .int (nI (((pBen (hY h p)).length) - 1))]) (rest := []) dL_isMovedSo_197 rfl mk_X6_benchAt mi_X6_benchAt ll_L_50 ⟨(Nat.le_of_ble_eq_true rfl), (Nat.le_of_ble_eq_true rfl)⟩ ho.1 (by decide) rfl rfl (Nat.le_of_ble_eq_true rfl) (Nat.le_of_ble_eq_true rfl) (q_benchAt ho w9.1 g7 hfl hp (by omega)) rfl (Nat.le_of_ble_eq_true rfl) (fun v s10 hv => ?_)
  have w10 := w2_0 w9 hv
  obtain ⟨rfl, -, -⟩ := hv
  refine RW.widen (k := 220) (n := 1320) (Nat.le_of_ble_eq_true rfl) (Nat.le_of_ble_eq_true rfl) ?_
  show RW G _ _ _ _ 200 [some (.ref (ad V 0)), some (.ref (ad V 47)), some (.int (nI p)), some (.int (nI j)), some (.int (nI ((pBrd (hY h p)).length))), some (.int (nI ((pBen (hY h p)).length))), some (.int (nI u)), some (.int (nI ((pBrd (hY h p)).length + 1))), some (.int (nI 1))] [.int (rowU (pBen (hY (baB h p j) p)) (((pBen (hY h p)).length) - 1))] _ _ _
  refine tTop (w := (nI (u))) (by rw [b2, ← hle]; exact (if_pos (by rw [List.length_append]; exact Nat.lt_succ_self _)).trans (congrArg nI (app_last.trans eu.symm))) ?_
  refine rIload dL_isMovedSo_200 rfl ?_
  refine r_icmp_ne (tgt := 219) dL_isMovedSo_202 (by decide) (fun c => absurd rfl c) (fun c => ?_)
  refine rAload_n dL_isMovedSo_205 rfl ?_
  refine rIload_n dL_isMovedSo_206 rfl ?_
  refine sCallSi (M' := mL_board) (rm' := rmD 10 45 270) (As := [.ref (ad V 0), .int (nI p)]) (rest := []) dL_isMovedSo_207 rfl mk_L_board ms_L_board ll_L_80 ⟨(Nat.le_of_ble_eq_true rfl), (Nat.le_of_ble_eq_true rfl)⟩ rfl (Nat.le_of_ble_eq_true rfl) (Nat.le_of_ble_eq_true rfl) (c_L_board ho w10.1 g7 hfl hp) rfl (Nat.le_of_ble_eq_true rfl) (fun v s11 hv => ?_)
  have w11 := w2_0 w10 hv
  obtain ⟨rfl, -, -⟩ := hv
  refine RW.widen (k := 265) (n := 1590) (Nat.le_of_ble_eq_true rfl) (Nat.le_of_ble_eq_true rfl) ?_
  show RW G _ _ _ _ 210 [some (.ref (ad V 0)), some (.ref (ad V 47)), some (.int (nI p)), some (.int (nI j)), some (.int (nI ((pBrd (hY h p)).length))), some (.int (nI ((pBen (hY h p)).length))), some (.int (nI u)), some (.int (nI ((pBrd (hY h p)).length + 1))), some (.int (nI 1))] [.int (nI ((pBrd (hY (baB h p j) p)).length))] _ _ _
  refine tTop (w := (nI ((pBrd (hY h p)).length))) (congrArg nI (by rw [b1])) ?_
  refine rIload dL_isMovedSo_210 rfl ?_
  refine r_icmp_ne (tgt := 219) dL_isMovedSo_212 (by decide) (fun c => absurd rfl c) (fun c => ?_)
  refine rIconst (v := (nI (1))) dL_isMovedSo_215 (by decide) ?_
  refine rGoto (tgt := 220) dL_isMovedSo_216 (by decide) ?_
  exact sIret dL_isMovedSo_220 rfl rfl (Nat.le_of_ble_eq_true rfl) (Nat.le_of_ble_eq_true rfl) ⟨_, rfl, rfl, baB h p j, g7, w11⟩
set_option maxRecDepth 100000 in
set_option maxHeartbeats 4000000 in
theorem soldN0 {G : gG} {V : wV} {lo : Nat → Int64} (ho : hallAt V 0) (hq : hallAt V 47) {s : sgT} {h : hT} (hw : W2 s h h) (hg : good h) (hfl : (gl G).stackTraces = false) {p j : Nat} (hp : p < 4) (hj : j < 3) (es : pShp (hY h p) j = none) : CSi G V mL_isSoldSo cL_isSoldSo (rmD 12 560 3360) [.ref (ad V 0), .ref (ad V 47), .int (nI p), .int (nI j)] s lo (fun v s' => v = nI 1 ∧ ∃ h', good h' ∧ W2 s' h' h') (fun _ => False) := by
  refine CSi.of (L := [some (.ref (ad V 0)), some (.ref (ad V 47)), some (.int (nI p)), some (.int (nI j)), none, none, none, none, none, none, none]) rfl (by decide +kernel) rfl (Nat.le_of_ble_eq_true rfl) rfl ?_
  obtain ⟨o1, o2, o3, o4, o5, o6, o7, o8, o9⟩ := hg.1.2.2.1 p hp
  have hd : (pBrd (hY h p)).length ≤ 5 := (plOk_len hg.1 hp).2.1
  have e4 := doN (bu_none hp hj es)
  refine rAload_n dL_isSoldSo_0 rfl ?_
  refine rIload_n dL_isSoldSo_1 rfl ?_
  refine sCallVi (M' := mX6_gold) (rm' := rmD 9 9 54) (As := [.int (nI p)]) (rest := []) dL_isSoldSo_2 rfl mk_X6_gold mi_X6_gold ll_L_68 ⟨(Nat.le_of_ble_eq_true rfl), (Nat.le_of_ble_eq_true rfl)⟩ ho.1 (by decide) rfl rfl (Nat.le_of_ble_eq_true rfl) (Nat.le_of_ble_eq_true rfl) (q_gold ho hw.1  hfl hp) rfl (Nat.le_of_ble_eq_true rfl) (fun v s1 hv => ?_)
  have w1 := w2_0 hw hv
  obtain ⟨rfl, -, -⟩ := hv
  refine RW.widen (k := 9) (n := 54) (Nat.le_of_ble_eq_true rfl) (Nat.le_of_ble_eq_true rfl) ?_
  show RW G _ _ _ _ 5 [some (.ref (ad V 0)), some (.ref (ad V 47)), some (.int (nI p)), some (.int (nI j)), none, none, none, none, none, none, none] [.int (nI (pGold (hY h p)))] _ _ _
  refine rIstore dL_isSoldSo_5 (by decide) ?_
  show RW G _ _ _ _ 7 [some (.ref (ad V 0)), some (.ref (ad V 47)), some (.int (nI p)), some (.int (nI j)), some (.int (nI (pGold (hY h p)))), none, none, none, none, none, none] [] _ _ _
  refine rAload_n dL_isSoldSo_7 rfl ?_
  refine rIload_n dL_isSoldSo_8 rfl ?_
  refine rIload_n dL_isSoldSo_9 rfl ?_
  refine sCallVi (M' := mX6_shopAt) (rm' := rmD 9 9 54) (As := [.int (nI p), .int (nI j)]) (rest := []) dL_isSoldSo_10 rfl mk_X6_shopAt mi_X6_shopAt ll_L_77 ⟨(Nat.le_of_ble_eq_true rfl), (Nat.le_of_ble_eq_true rfl)⟩ ho.1 (by decide) rfl rfl (Nat.le_of_ble_eq_true rfl) (Nat.le_of_ble_eq_true rfl) (q_shopAt ho w1.1  hfl hp hj) rfl (Nat.le_of_ble_eq_true rfl) (fun v s2 hv => ?_)
  have w2 := w2_0 w1 hv
  obtain ⟨rfl, -, -⟩ := hv
  refine RW.widen (k := 18) (n := 108) (Nat.le_of_ble_eq_true rfl) (Nat.le_of_ble_eq_true rfl) ?_
  show RW G _ _ _ _ 13 [some (.ref (ad V 0)), some (.ref (ad V 47)), some (.int (nI p)), some (.int (nI j)), some (.int (nI (pGold (hY h p)))), none, none, none, none, none, none] [.int (shI (pShp (hY h p) j))] _ _ _
  refine tTop (w := (-1)) (by rw [es]; rfl) ?_
  refine rIstore dL_isSoldSo_13 (by decide) ?_
  show RW G _ _ _ _ 15 [some (.ref (ad V 0)), some (.ref (ad V 47)), some (.int (nI p)), some (.int (nI j)), some (.int (nI (pGold (hY h p)))), some (.int (-1)), none, none, none, none, none] [] _ _ _
  refine rAload_n dL_isSoldSo_15 rfl ?_
  refine rIload_n dL_isSoldSo_16 rfl ?_
  refine sCallSi (M' := mL_bench) (rm' := rmD 10 54 324) (As := [.ref (ad V 0), .int (nI p)]) (rest := []) dL_isSoldSo_17 rfl mk_L_bench ms_L_bench ll_L_87 ⟨(Nat.le_of_ble_eq_true rfl), (Nat.le_of_ble_eq_true rfl)⟩ rfl (Nat.le_of_ble_eq_true rfl) (Nat.le_of_ble_eq_true rfl) (c_L_bench ho w2.1 hg hfl hp) rfl (Nat.le_of_ble_eq_true rfl) (fun v s3 hv => ?_)
  have w3 := w2_0 w2 hv
  obtain ⟨rfl, -, -⟩ := hv
  refine RW.widen (k := 72) (n := 432) (Nat.le_of_ble_eq_true rfl) (Nat.le_of_ble_eq_true rfl) ?_
  show RW G _ _ _ _ 20 [some (.ref (ad V 0)), some (.ref (ad V 47)), some (.int (nI p)), some (.int (nI j)), some (.int (nI (pGold (hY h p)))), some (.int (-1)), none, none, none, none, none] [.int (nI ((pBen (hY h p)).length))] _ _ _
  refine rIstore dL_isSoldSo_20 (by decide) ?_
  show RW G _ _ _ _ 22 [some (.ref (ad V 0)), some (.ref (ad V 47)), some (.int (nI p)), some (.int (nI j)), some (.int (nI (pGold (hY h p)))), some (.int (-1)), some (.int (nI ((pBen (hY h p)).length))), none, none, none, none] [] _ _ _
  refine rAload_n dL_isSoldSo_22 rfl ?_
  refine rIload_n dL_isSoldSo_23 rfl ?_
  refine sCallSi (M' := mL_units) (rm' := rmD 10 108 648) (As := [.ref (ad V 0), .int (nI p)]) (rest := []) dL_isSoldSo_24 rfl mk_L_units ms_L_units ll_L_84 ⟨(Nat.le_of_ble_eq_true rfl), (Nat.le_of_ble_eq_true rfl)⟩ rfl (Nat.le_of_ble_eq_true rfl) (Nat.le_of_ble_eq_true rfl) (c_L_units ho w3.1 hg hfl hp) rfl (Nat.le_of_ble_eq_true rfl) (fun v s4 hv => ?_)
  have w4 := w2_0 w3 hv
  obtain ⟨rfl, -, -⟩ := hv
  refine RW.widen (k := 180) (n := 1080) (Nat.le_of_ble_eq_true rfl) (Nat.le_of_ble_eq_true rfl) ?_
  show RW G _ _ _ _ 27 [some (.ref (ad V 0)), some (.ref (ad V 47)), some (.int (nI p)), some (.int (nI j)), some (.int (nI (pGold (hY h p)))), some (.int (-1)), some (.int (nI ((pBen (hY h p)).length))), none, none, none, none] [.int (nI ((pBrd (hY h p)).length + (pBen (hY h p)).length))] _ _ _
  refine rIstore dL_isSoldSo_27 (by decide) ?_
  show RW G _ _ _ _ 29 [some (.ref (ad V 0)), some (.ref (ad V 47)), some (.int (nI p)), some (.int (nI j)), some (.int (nI (pGold (hY h p)))), some (.int (-1)), some (.int (nI ((pBen (hY h p)).length))), some (.int (nI ((pBrd (hY h p)).length + (pBen (hY h p)).length))), none, none, none] [] _ _ _
  refine rAload_n dL_isSoldSo_29 rfl ?_
  refine rIconst (v := (nI (4))) dL_isSoldSo_30 (by decide) ?_
  refine rIload_n dL_isSoldSo_31 rfl ?_
  refine rIload_n dL_isSoldSo_32 rfl ?_
  refine sCallW (M' := mL_does) (rm' := rmD 10 10 60) (As := [.ref (ad V 0), .int (nI 4), .int (nI p), .int (nI j)]) (rest := []) dL_isSoldSo_33 (by decide) mk_L_does ms_L_does lw_L_61 ⟨(Nat.le_of_ble_eq_true rfl), (Nat.le_of_ble_eq_true rfl)⟩ rfl (Nat.le_of_ble_eq_true rfl) (Nat.le_of_ble_eq_true rfl) (c_does_at ho w4.1 hg hfl (by decide) e4) rfl (Nat.le_of_ble_eq_true rfl) (fun v s5 hv => ?_)
  have w5 := w2_0 w4 hv
  obtain ⟨rfl, -, -⟩ := hv
  refine RW.widen (k := 190) (n := 1140) (Nat.le_of_ble_eq_true rfl) (Nat.le_of_ble_eq_true rfl) ?_
  show RW G _ _ _ _ 36 [some (.ref (ad V 0)), some (.ref (ad V 47)), some (.int (nI p)), some (.int (nI j)), some (.int (nI (pGold (hY h p)))), some (.int (-1)), some (.int (nI ((pBen (hY h p)).length))), some (.int (nI ((pBrd (hY h p)).length + (pBen (hY h p)).length))), none, none, none] [.int (-99999)] _ _ _
  refine rIstore dL_isSoldSo_36 (by decide) ?_
  show RW G _ _ _ _ 38 [some (.ref (ad V 0)), some (.ref (ad V 47)), some (.int (nI p)), some (.int (nI j)), some (.int (nI (pGold (hY h p)))), some (.int (-1)), some (.int (nI ((pBen (hY h p)).length))), some (.int (nI ((pBrd (hY h p)).length + (pBen (hY h p)).length))), some (.int (-99999)), none, none] [] _ _ _
  refine rAload_n dL_isSoldSo_38 rfl ?_
  refine rIconst (v := (nI (4))) dL_isSoldSo_39 (by decide) ?_
  refine rIload_n dL_isSoldSo_40 rfl ?_
  refine rIload_n dL_isSoldSo_41 rfl ?_
  refine sCallW (M' := mL_does) (rm' := rmD 10 10 60) (As := [.ref (ad V 47), .int (nI 4), .int (nI p), .int (nI j)]) (rest := []) dL_isSoldSo_42 (by decide) mk_L_does ms_L_does lw_L_61 ⟨(Nat.le_of_ble_eq_true rfl), (Nat.le_of_ble_eq_true rfl)⟩ rfl (Nat.le_of_ble_eq_true rfl) (Nat.le_of_ble_eq_true rfl) (c_does_at hq w5.2 hg hfl (by decide) e4) rfl (Nat.le_of_ble_eq_true rfl) (fun v s6 hv => ?_)
  have w6 := w2_1 w5 hv
  obtain ⟨rfl, -, -⟩ := hv
  refine RW.widen (k := 200) (n := 1200) (Nat.le_of_ble_eq_true rfl) (Nat.le_of_ble_eq_true rfl) ?_
  show RW G _ _ _ _ 45 [some (.ref (ad V 0)), some (.ref (ad V 47)), some (.int (nI p)), some (.int (nI j)), some (.int (nI (pGold (hY h p)))), some (.int (-1)), some (.int (nI ((pBen (hY h p)).length))), some (.int (nI ((pBrd (hY h p)).length + (pBen (hY h p)).length))), some (.int (-99999)), none, none] [.int (-99999)] _ _ _
  refine rIload dL_isSoldSo_45 rfl ?_
  refine r_icmp_ne (tgt := 97) dL_isSoldSo_47 (by decide) (fun c => absurd rfl c) (fun c => ?_)
  refine rIload dL_isSoldSo_50 rfl ?_
  refine rLdc (v := -99999) dL_isSoldSo_52 kc_L_43 ?_
  refine r_icmp_ne (tgt := 61) dL_isSoldSo_54 (by decide) (fun c => absurd rfl c) (fun c => ?_)
  refine rIconst (v := (nI (1))) dL_isSoldSo_57 (by decide) ?_
  refine rGoto (tgt := 62) dL_isSoldSo_58 (by decide) ?_
  refine rIload dL_isSoldSo_62 rfl ?_
  refine r_if_lt (tgt := 85) dL_isSoldSo_64 (by decide) (fun c => ?_) (fun c => absurd (by decide) c)
  refine rIconst (v := (nI (1))) dL_isSoldSo_85 (by decide) ?_
  refine rGoto (tgt := 90) dL_isSoldSo_86 (by decide) ?_
  refine r_icmp_ne (tgt := 97) dL_isSoldSo_90 (by decide) (fun c => absurd rfl c) (fun c => ?_)
  refine rIconst (v := (nI (1))) dL_isSoldSo_93 (by decide) ?_
  refine rGoto (tgt := 98) dL_isSoldSo_94 (by decide) ?_
  refine rIstore dL_isSoldSo_98 (by decide) ?_
  show RW G _ _ _ _ 100 [some (.ref (ad V 0)), some (.ref (ad V 47)), some (.int (nI p)), some (.int (nI j)), some (.int (nI (pGold (hY h p)))), some (.int (-1)), some (.int (nI ((pBen (hY h p)).length))), some (.int (nI ((pBrd (hY h p)).length + (pBen (hY h p)).length))), some (.int (-99999)), some (.int (nI 1)), none] [] _ _ _
  refine rIload dL_isSoldSo_100 rfl ?_
  refine rLdc (v := -99999) dL_isSoldSo_102 kc_L_43 ?_
  refine r_icmp_ne (tgt := 139) dL_isSoldSo_104 (by decide) (fun c => absurd rfl c) (fun c => ?_)
  refine rIload dL_isSoldSo_107 rfl ?_
  refine r_if_eq (tgt := 137) dL_isSoldSo_109 (by decide) (fun c => absurd c (by decide)) (fun c => ?_)
  refine rAload_n dL_isSoldSo_112 rfl ?_
  refine rIload_n dL_isSoldSo_113 rfl ?_
  refine sCallVi (M' := mX6_gold) (rm' := rmD 9 9 54) (As := [.int (nI p)]) (rest := []) dL_isSoldSo_114 rfl mk_X6_gold mi_X6_gold ll_L_68 ⟨(Nat.le_of_ble_eq_true rfl), (Nat.le_of_ble_eq_true rfl)⟩ ho.1 (by decide) rfl rfl (Nat.le_of_ble_eq_true rfl) (Nat.le_of_ble_eq_true rfl) (q_gold ho w6.1  hfl hp) rfl (Nat.le_of_ble_eq_true rfl) (fun v s7 hv => ?_)
  have w7 := w2_0 w6 hv
  obtain ⟨rfl, -, -⟩ := hv
  refine RW.widen (k := 209) (n := 1254) (Nat.le_of_ble_eq_true rfl) (Nat.le_of_ble_eq_true rfl) ?_
  show RW G _ _ _ _ 117 [some (.ref (ad V 0)), some (.ref (ad V 47)), some (.int (nI p)), some (.int (nI j)), some (.int (nI (pGold (hY h p)))), some (.int (-1)), some (.int (nI ((pBen (hY h p)).length))), some (.int (nI ((pBrd (hY h p)).length + (pBen (hY h p)).length))), some (.int (-99999)), some (.int (nI 1)), none] [.int (nI (pGold (hY h p)))] _ _ _
  refine rIload dL_isSoldSo_117 rfl ?_
  refine r_icmp_ne (tgt := 137) dL_isSoldSo_119 (by decide) (fun c => absurd rfl c) (fun c => ?_)
  refine rAload_n dL_isSoldSo_122 rfl ?_
  refine rIload_n dL_isSoldSo_123 rfl ?_
  refine rIload_n dL_isSoldSo_124 rfl ?_
  refine sCallVi (M' := mX6_shopAt) (rm' := rmD 9 9 54) (As := [.int (nI p), .int (nI j)]) (rest := []) dL_isSoldSo_125 rfl mk_X6_shopAt mi_X6_shopAt ll_L_77 ⟨(Nat.le_of_ble_eq_true rfl), (Nat.le_of_ble_eq_true rfl)⟩ ho.1 (by decide) rfl rfl (Nat.le_of_ble_eq_true rfl) (Nat.le_of_ble_eq_true rfl) (q_shopAt ho w7.1  hfl hp hj) rfl (Nat.le_of_ble_eq_true rfl) (fun v s8 hv => ?_)
  have w8 := w2_0 w7 hv
  obtain ⟨rfl, -, -⟩ := hv
  refine RW.widen (k := 218) (n := 1308) (Nat.le_of_ble_eq_true rfl) (Nat.le_of_ble_eq_true rfl) ?_
  show RW G _ _ _ _ 128 [some (.ref (ad V 0)), some (.ref (ad V 47)), some (.int (nI p)), some (.int (nI j)), some (.int (nI (pGold (hY h p)))), some (.int (-1)), some (.int (nI ((pBen (hY h p)).length))), some (.int (nI ((pBrd (hY h p)).length + (pBen (hY h p)).length))), some (.int (-99999)), some (.int (nI 1)), none] [.int (shI (pShp (hY h p) j))] _ _ _
  refine tTop (w := (-1)) (by rw [es]; rfl) ?_
  refine rIload dL_isSoldSo_128 rfl ?_
  refine r_icmp_ne (tgt := 137) dL_isSoldSo_130 (by decide) (fun c => absurd rfl c) (fun c => ?_)
  refine rIconst (v := (nI (1))) dL_isSoldSo_133 (by decide) ?_
  refine rGoto (tgt := 138) dL_isSoldSo_134 (by decide) ?_
  exact sIret dL_isSoldSo_138 rfl rfl (Nat.le_of_ble_eq_true rfl) (Nat.le_of_ble_eq_true rfl) ⟨_, rfl, rfl, h, hg, w8⟩
set_option maxRecDepth 100000 in
set_option maxHeartbeats 4000000 in
theorem soldN1 {G : gG} {V : wV} {lo : Nat → Int64} (ho : hallAt V 0) (hq : hallAt V 47) {s : sgT} {h : hT} (hw : W2 s h h) (hg : good h) (hfl : (gl G).stackTraces = false) {p j : Nat} (hp : p < 4) (hj : j < 3) {k : Nat} (es : pShp (hY h p) j = some k) (cc : pGold (hY h p) < cst k ∨ (pBen (hY h p)).length = 6) : CSi G V mL_isSoldSo cL_isSoldSo (rmD 12 560 3360) [.ref (ad V 0), .ref (ad V 47), .int (nI p), .int (nI j)] s lo (fun v s' => v = nI 1 ∧ ∃ h', good h' ∧ W2 s' h' h') (fun _ => False) := by
  refine CSi.of (L := [some (.ref (ad V 0)), some (.ref (ad V 47)), some (.int (nI p)), some (.int (nI j)), none, none, none, none, none, none, none]) rfl (by decide +kernel) rfl (Nat.le_of_ble_eq_true rfl) rfl ?_
  obtain ⟨o1, o2, o3, o4, o5, o6, o7, o8, o9⟩ := hg.1.2.2.1 p hp
  have hd : (pBrd (hY h p)).length ≤ 5 := (plOk_len hg.1 hp).2.1
  have e4 := doN (bu_no hp hj es cc)
  have hk9 : k < 9 := o5 j hj k es
  have hcst : cst k = k / 3 + 1 := rfl
  refine rAload_n dL_isSoldSo_0 rfl ?_
  refine rIload_n dL_isSoldSo_1 rfl ?_
  refine sCallVi (M' := mX6_gold) (rm' := rmD 9 9 54) (As := [.int (nI p)]) (rest := []) dL_isSoldSo_2 rfl mk_X6_gold mi_X6_gold ll_L_68 ⟨(Nat.le_of_ble_eq_true rfl), (Nat.le_of_ble_eq_true rfl)⟩ ho.1 (by decide) rfl rfl (Nat.le_of_ble_eq_true rfl) (Nat.le_of_ble_eq_true rfl) (q_gold ho hw.1  hfl hp) rfl (Nat.le_of_ble_eq_true rfl) (fun v s1 hv => ?_)
  have w1 := w2_0 hw hv
  obtain ⟨rfl, -, -⟩ := hv
  refine RW.widen (k := 9) (n := 54) (Nat.le_of_ble_eq_true rfl) (Nat.le_of_ble_eq_true rfl) ?_
  show RW G _ _ _ _ 5 [some (.ref (ad V 0)), some (.ref (ad V 47)), some (.int (nI p)), some (.int (nI j)), none, none, none, none, none, none, none] [.int (nI (pGold (hY h p)))] _ _ _
  refine rIstore dL_isSoldSo_5 (by decide) ?_
  show RW G _ _ _ _ 7 [some (.ref (ad V 0)), some (.ref (ad V 47)), some (.int (nI p)), some (.int (nI j)), some (.int (nI (pGold (hY h p)))), none, none, none, none, none, none] [] _ _ _
  refine rAload_n dL_isSoldSo_7 rfl ?_
  refine rIload_n dL_isSoldSo_8 rfl ?_
  refine rIload_n dL_isSoldSo_9 rfl ?_
  refine sCallVi (M' := mX6_shopAt) (rm' := rmD 9 9 54) (As := [.int (nI p), .int (nI j)]) (rest := []) dL_isSoldSo_10 rfl mk_X6_shopAt mi_X6_shopAt ll_L_77 ⟨(Nat.le_of_ble_eq_true rfl), (Nat.le_of_ble_eq_true rfl)⟩ ho.1 (by decide) rfl rfl (Nat.le_of_ble_eq_true rfl) (Nat.le_of_ble_eq_true rfl) (q_shopAt ho w1.1  hfl hp hj) rfl (Nat.le_of_ble_eq_true rfl) (fun v s2 hv => ?_)
  have w2 := w2_0 w1 hv
  obtain ⟨rfl, -, -⟩ := hv
  refine RW.widen (k := 18) (n := 108) (Nat.le_of_ble_eq_true rfl) (Nat.le_of_ble_eq_true rfl) ?_
  show RW G _ _ _ _ 13 [some (.ref (ad V 0)), some (.ref (ad V 47)), some (.int (nI p)), some (.int (nI j)), some (.int (nI (pGold (hY h p)))), none, none, none, none, none, none] [.int (shI (pShp (hY h p) j))] _ _ _
  refine tTop (w := (nI (k))) (by rw [es]; rfl) ?_
  refine rIstore dL_isSoldSo_13 (by decide) ?_
  show RW G _ _ _ _ 15 [some (.ref (ad V 0)), some (.ref (ad V 47)), some (.int (nI p)), some (.int (nI j)), some (.int (nI (pGold (hY h p)))), some (.int (nI k)), none, none, none, none, none] [] _ _ _
  refine rAload_n dL_isSoldSo_15 rfl ?_
  refine rIload_n dL_isSoldSo_16 rfl ?_
  refine sCallSi (M' := mL_bench) (rm' := rmD 10 54 324) (As := [.ref (ad V 0), .int (nI p)]) (rest := []) dL_isSoldSo_17 rfl mk_L_bench ms_L_bench ll_L_87 ⟨(Nat.le_of_ble_eq_true rfl), (Nat.le_of_ble_eq_true rfl)⟩ rfl (Nat.le_of_ble_eq_true rfl) (Nat.le_of_ble_eq_true rfl) (c_L_bench ho w2.1 hg hfl hp) rfl (Nat.le_of_ble_eq_true rfl) (fun v s3 hv => ?_)
  have w3 := w2_0 w2 hv
  obtain ⟨rfl, -, -⟩ := hv
  refine RW.widen (k := 72) (n := 432) (Nat.le_of_ble_eq_true rfl) (Nat.le_of_ble_eq_true rfl) ?_
  show RW G _ _ _ _ 20 [some (.ref (ad V 0)), some (.ref (ad V 47)), some (.int (nI p)), some (.int (nI j)), some (.int (nI (pGold (hY h p)))), some (.int (nI k)), none, none, none, none, none] [.int (nI ((pBen (hY h p)).length))] _ _ _
  refine rIstore dL_isSoldSo_20 (by decide) ?_
  show RW G _ _ _ _ 22 [some (.ref (ad V 0)), some (.ref (ad V 47)), some (.int (nI p)), some (.int (nI j)), some (.int (nI (pGold (hY h p)))), some (.int (nI k)), some (.int (nI ((pBen (hY h p)).length))), none, none, none, none] [] _ _ _
  refine rAload_n dL_isSoldSo_22 rfl ?_
  refine rIload_n dL_isSoldSo_23 rfl ?_
  refine sCallSi (M' := mL_units) (rm' := rmD 10 108 648) (As := [.ref (ad V 0), .int (nI p)]) (rest := []) dL_isSoldSo_24 rfl mk_L_units ms_L_units ll_L_84 ⟨(Nat.le_of_ble_eq_true rfl), (Nat.le_of_ble_eq_true rfl)⟩ rfl (Nat.le_of_ble_eq_true rfl) (Nat.le_of_ble_eq_true rfl) (c_L_units ho w3.1 hg hfl hp) rfl (Nat.le_of_ble_eq_true rfl) (fun v s4 hv => ?_)
  have w4 := w2_0 w3 hv
  obtain ⟨rfl, -, -⟩ := hv
  refine RW.widen (k := 180) (n := 1080) (Nat.le_of_ble_eq_true rfl) (Nat.le_of_ble_eq_true rfl) ?_
  show RW G _ _ _ _ 27 [some (.ref (ad V 0)), some (.ref (ad V 47)), some (.int (nI p)), some (.int (nI j)), some (.int (nI (pGold (hY h p)))), some (.int (nI k)), some (.int (nI ((pBen (hY h p)).length))), none, none, none, none] [.int (nI ((pBrd (hY h p)).length + (pBen (hY h p)).length))] _ _ _
  refine rIstore dL_isSoldSo_27 (by decide) ?_
  show RW G _ _ _ _ 29 [some (.ref (ad V 0)), some (.ref (ad V 47)), some (.int (nI p)), some (.int (nI j)), some (.int (nI (pGold (hY h p)))), some (.int (nI k)), some (.int (nI ((pBen (hY h p)).length))), some (.int (nI ((pBrd (hY h p)).length + (pBen (hY h p)).length))), none, none, none] [] _ _ _
  refine rAload_n dL_isSoldSo_29 rfl ?_
  refine rIconst (v := (nI (4))) dL_isSoldSo_30 (by decide) ?_
  refine rIload_n dL_isSoldSo_31 rfl ?_
  refine rIload_n dL_isSoldSo_32 rfl ?_
  refine sCallW (M' := mL_does) (rm' := rmD 10 10 60) (As := [.ref (ad V 0), .int (nI 4), .int (nI p), .int (nI j)]) (rest := []) dL_isSoldSo_33 (by decide) mk_L_does ms_L_does lw_L_61 ⟨(Nat.le_of_ble_eq_true rfl), (Nat.le_of_ble_eq_true rfl)⟩ rfl (Nat.le_of_ble_eq_true rfl) (Nat.le_of_ble_eq_true rfl) (c_does_at ho w4.1 hg hfl (by decide) e4) rfl (Nat.le_of_ble_eq_true rfl) (fun v s5 hv => ?_)
  have w5 := w2_0 w4 hv
  obtain ⟨rfl, -, -⟩ := hv
  refine RW.widen (k := 190) (n := 1140) (Nat.le_of_ble_eq_true rfl) (Nat.le_of_ble_eq_true rfl) ?_
  show RW G _ _ _ _ 36 [some (.ref (ad V 0)), some (.ref (ad V 47)), some (.int (nI p)), some (.int (nI j)), some (.int (nI (pGold (hY h p)))), some (.int (nI k)), some (.int (nI ((pBen (hY h p)).length))), some (.int (nI ((pBrd (hY h p)).length + (pBen (hY h p)).length))), none, none, none] [.int (-99999)] _ _ _
  refine rIstore dL_isSoldSo_36 (by decide) ?_
  show RW G _ _ _ _ 38 [some (.ref (ad V 0)), some (.ref (ad V 47)), some (.int (nI p)), some (.int (nI j)), some (.int (nI (pGold (hY h p)))), some (.int (nI k)), some (.int (nI ((pBen (hY h p)).length))), some (.int (nI ((pBrd (hY h p)).length + (pBen (hY h p)).length))), some (.int (-99999)), none, none] [] _ _ _
  refine rAload_n dL_isSoldSo_38 rfl ?_
  refine rIconst (v := (nI (4))) dL_isSoldSo_39 (by decide) ?_
  refine rIload_n dL_isSoldSo_40 rfl ?_
  refine rIload_n dL_isSoldSo_41 rfl ?_
  refine sCallW (M' := mL_does) (rm' := rmD 10 10 60) (As := [.ref (ad V 47), .int (nI 4), .int (nI p), .int (nI j)]) (rest := []) dL_isSoldSo_42 (by decide) mk_L_does ms_L_does lw_L_61 ⟨(Nat.le_of_ble_eq_true rfl), (Nat.le_of_ble_eq_true rfl)⟩ rfl (Nat.le_of_ble_eq_true rfl) (Nat.le_of_ble_eq_true rfl) (c_does_at hq w5.2 hg hfl (by decide) e4) rfl (Nat.le_of_ble_eq_true rfl) (fun v s6 hv => ?_)
  have w6 := w2_1 w5 hv
  obtain ⟨rfl, -, -⟩ := hv
  refine RW.widen (k := 200) (n := 1200) (Nat.le_of_ble_eq_true rfl) (Nat.le_of_ble_eq_true rfl) ?_
  show RW G _ _ _ _ 45 [some (.ref (ad V 0)), some (.ref (ad V 47)), some (.int (nI p)), some (.int (nI j)), some (.int (nI (pGold (hY h p)))), some (.int (nI k)), some (.int (nI ((pBen (hY h p)).length))), some (.int (nI ((pBrd (hY h p)).length + (pBen (hY h p)).length))), some (.int (-99999)), none, none] [.int (-99999)] _ _ _
  refine rIload dL_isSoldSo_45 rfl ?_
  refine r_icmp_ne (tgt := 97) dL_isSoldSo_47 (by decide) (fun c => absurd rfl c) (fun c => ?_)
  refine rIload dL_isSoldSo_50 rfl ?_
  refine rLdc (v := -99999) dL_isSoldSo_52 kc_L_43 ?_
  refine r_icmp_ne (tgt := 61) dL_isSoldSo_54 (by decide) (fun c => absurd rfl c) (fun c => ?_)
  refine rIconst (v := (nI (1))) dL_isSoldSo_57 (by decide) ?_
  refine rGoto (tgt := 62) dL_isSoldSo_58 (by decide) ?_
  refine rIload dL_isSoldSo_62 rfl ?_
  refine r_if_lt (tgt := 85) dL_isSoldSo_64 (by decide) (fun c => absurd c (nI_pos (by omega))) (fun c => ?_)
  refine rIload dL_isSoldSo_67 rfl ?_
  refine rIload dL_isSoldSo_69 rfl ?_
  refine rIconst (v := (nI (3))) dL_isSoldSo_71 (by decide) ?_
  refine nIdiv dL_isSoldSo_72 (by omega) (by decide) (by decide) ?_
  refine rIconst (v := (nI (1))) dL_isSoldSo_73 (by decide) ?_
  refine nIadd dL_isSoldSo_74 ?_
  refine r_icmp_lt (tgt := 85) dL_isSoldSo_75 (by decide) (fun c_75 => ?_) (fun c_75 => ?_)
  · have c_75 : (pGold (hY h p)) < ((k / 3) + 1) := (nI_ltI (by omega) (by omega)).mp c_75
    refine rIconst (v := (nI (1))) dL_isSoldSo_85 (by decide) ?_
    refine rGoto (tgt := 90) dL_isSoldSo_86 (by decide) ?_
    refine r_icmp_ne (tgt := 97) dL_isSoldSo_90 (by decide) (fun c => absurd rfl c) (fun c => ?_)
    refine rIconst (v := (nI (1))) dL_isSoldSo_93 (by decide) ?_
    refine rGoto (tgt := 98) dL_isSoldSo_94 (by decide) ?_
    refine rIstore dL_isSoldSo_98 (by decide) ?_
    show RW G _ _ _ _ 100 [some (.ref (ad V 0)), some (.ref (ad V 47)), some (.int (nI p)), some (.int (nI j)), some (.int (nI (pGold (hY h p)))), some (.int (nI k)), some (.int (nI ((pBen (hY h p)).length))), some (.int (nI ((pBrd (hY h p)).length + (pBen (hY h p)).length))), some (.int (-99999)), some (.int (nI 1)), none] [] _ _ _
    refine rIload dL_isSoldSo_100 rfl ?_
    refine rLdc (v := -99999) dL_isSoldSo_102 kc_L_43 ?_
    refine r_icmp_ne (tgt := 139) dL_isSoldSo_104 (by decide) (fun c => absurd rfl c) (fun c => ?_)
    refine rIload dL_isSoldSo_107 rfl ?_
    refine r_if_eq (tgt := 137) dL_isSoldSo_109 (by decide) (fun c => absurd c (by decide)) (fun c => ?_)
    refine rAload_n dL_isSoldSo_112 rfl ?_
    refine rIload_n dL_isSoldSo_113 rfl ?_
    refine sCallVi (M' := mX6_gold) (rm' := rmD 9 9 54) (As := [.int (nI p)]) (rest := []) dL_isSoldSo_114 rfl mk_X6_gold mi_X6_gold ll_L_68 ⟨(Nat.le_of_ble_eq_true rfl), (Nat.le_of_ble_eq_true rfl)⟩ ho.1 (by decide) rfl rfl (Nat.le_of_ble_eq_true rfl) (Nat.le_of_ble_eq_true rfl) (q_gold ho w6.1  hfl hp) rfl (Nat.le_of_ble_eq_true rfl) (fun v s7 hv => ?_)
    have w7 := w2_0 w6 hv
    obtain ⟨rfl, -, -⟩ := hv
    refine RW.widen (k := 209) (n := 1254) (Nat.le_of_ble_eq_true rfl) (Nat.le_of_ble_eq_true rfl) ?_
    show RW G _ _ _ _ 117 [some (.ref (ad V 0)), some (.ref (ad V 47)), some (.int (nI p)), some (.int (nI j)), some (.int (nI (pGold (hY h p)))), some (.int (nI k)), some (.int (nI ((pBen (hY h p)).length))), some (.int (nI ((pBrd (hY h p)).length + (pBen (hY h p)).length))), some (.int (-99999)), some (.int (nI 1)), none] [.int (nI (pGold (hY h p)))] _ _ _
    refine rIload dL_isSoldSo_117 rfl ?_
    refine r_icmp_ne (tgt := 137) dL_isSoldSo_119 (by decide) (fun c => absurd rfl c) (fun c => ?_)
    refine rAload_n dL_isSoldSo_122 rfl ?_
    refine rIload_n dL_isSoldSo_123 rfl ?_
    refine rIload_n dL_isSoldSo_124 rfl ?_
    refine sCallVi (M' := mX6_shopAt) (rm' := rmD 9 9 54) (As := [.int (nI p), .int (nI j)]) (rest := []) dL_isSoldSo_125 rfl mk_X6_shopAt mi_X6_shopAt ll_L_77 ⟨(Nat.le_of_ble_eq_true rfl), (Nat.le_of_ble_eq_true rfl)⟩ ho.1 (by decide) rfl rfl (Nat.le_of_ble_eq_true rfl) (Nat.le_of_ble_eq_true rfl) (q_shopAt ho w7.1  hfl hp hj) rfl (Nat.le_of_ble_eq_true rfl) (fun v s8 hv => ?_)
    have w8 := w2_0 w7 hv
    obtain ⟨rfl, -, -⟩ := hv
    refine RW.widen (k := 218) (n := 1308) (Nat.le_of_ble_eq_true rfl) (Nat.le_of_ble_eq_true rfl) ?_
    show RW G _ _ _ _ 128 [some (.ref (ad V 0)), some (.ref (ad V 47)), some (.int (nI p)), some (.int (nI j)), some (.int (nI (pGold (hY h p)))), some (.int (nI k)), some (.int (nI ((pBen (hY h p)).length))), some (.int (nI ((pBrd (hY h p)).length + (pBen (hY h p)).length))), some (.int (-99999)), some (.int (nI 1)), none] [.int (shI (pShp (hY h p) j))] _ _ _
    refine tTop (w := (nI (k))) (by rw [es]; rfl) ?_
    refine rIload dL_isSoldSo_128 rfl ?_
    refine r_icmp_ne (tgt := 137) dL_isSoldSo_130 (by decide) (fun c => absurd rfl c) (fun c => ?_)
    refine rIconst (v := (nI (1))) dL_isSoldSo_133 (by decide) ?_
    refine rGoto (tgt := 138) dL_isSoldSo_134 (by decide) ?_
    exact sIret dL_isSoldSo_138 rfl rfl (Nat.le_of_ble_eq_true rfl) (Nat.le_of_ble_eq_true rfl) ⟨_, rfl, rfl, h, hg, w8⟩
  · have c_75 : ¬ ((pGold (hY h p)) < ((k / 3) + 1)) := fun h => c_75 ((nI_ltI (by omega) (by omega)).mpr h)
    have z6 : (pBen (hY h p)).length = 6 := by omega
    refine rIload dL_isSoldSo_78 rfl ?_
    refine rBipush (v := (nI (6))) dL_isSoldSo_80 (by decide) ?_
    refine r_icmp_ne (tgt := 89) dL_isSoldSo_82 (by decide) (fun c => absurd (congrArg nI z6) c) (fun c => ?_)
    refine rIconst (v := (nI (1))) dL_isSoldSo_85 (by decide) ?_
    refine rGoto (tgt := 90) dL_isSoldSo_86 (by decide) ?_
    refine r_icmp_ne (tgt := 97) dL_isSoldSo_90 (by decide) (fun c => absurd rfl c) (fun c => ?_)
    refine rIconst (v := (nI (1))) dL_isSoldSo_93 (by decide) ?_
    refine rGoto (tgt := 98) dL_isSoldSo_94 (by decide) ?_
    refine rIstore dL_isSoldSo_98 (by decide) ?_
    show RW G _ _ _ _ 100 [some (.ref (ad V 0)), some (.ref (ad V 47)), some (.int (nI p)), some (.int (nI j)), some (.int (nI (pGold (hY h p)))), some (.int (nI k)), some (.int (nI ((pBen (hY h p)).length))), some (.int (nI ((pBrd (hY h p)).length + (pBen (hY h p)).length))), some (.int (-99999)), some (.int (nI 1)), none] [] _ _ _
    refine rIload dL_isSoldSo_100 rfl ?_
    refine rLdc (v := -99999) dL_isSoldSo_102 kc_L_43 ?_
    refine r_icmp_ne (tgt := 139) dL_isSoldSo_104 (by decide) (fun c => absurd rfl c) (fun c => ?_)
    refine rIload dL_isSoldSo_107 rfl ?_
    refine r_if_eq (tgt := 137) dL_isSoldSo_109 (by decide) (fun c => absurd c (by decide)) (fun c => ?_)
    refine rAload_n dL_isSoldSo_112 rfl ?_
    refine rIload_n dL_isSoldSo_113 rfl ?_
    refine sCallVi (M' := mX6_gold) (rm' := rmD 9 9 54) (As := [.int (nI p)]) (rest := []) dL_isSoldSo_114 rfl mk_X6_gold mi_X6_gold ll_L_68 ⟨(Nat.le_of_ble_eq_true rfl), (Nat.le_of_ble_eq_true rfl)⟩ ho.1 (by decide) rfl rfl (Nat.le_of_ble_eq_true rfl) (Nat.le_of_ble_eq_true rfl) (q_gold ho w6.1  hfl hp) rfl (Nat.le_of_ble_eq_true rfl) (fun v s7 hv => ?_)
    have w7 := w2_0 w6 hv
    obtain ⟨rfl, -, -⟩ := hv
    refine RW.widen (k := 209) (n := 1254) (Nat.le_of_ble_eq_true rfl) (Nat.le_of_ble_eq_true rfl) ?_
    show RW G _ _ _ _ 117 [some (.ref (ad V 0)), some (.ref (ad V 47)), some (.int (nI p)), some (.int (nI j)), some (.int (nI (pGold (hY h p)))), some (.int (nI k)), some (.int (nI ((pBen (hY h p)).length))), some (.int (nI ((pBrd (hY h p)).length + (pBen (hY h p)).length))), some (.int (-99999)), some (.int (nI 1)), none] [.int (nI (pGold (hY h p)))] _ _ _
    refine rIload dL_isSoldSo_117 rfl ?_
    refine r_icmp_ne (tgt := 137) dL_isSoldSo_119 (by decide) (fun c => absurd rfl c) (fun c => ?_)
    refine rAload_n dL_isSoldSo_122 rfl ?_
    refine rIload_n dL_isSoldSo_123 rfl ?_
    refine rIload_n dL_isSoldSo_124 rfl ?_
    refine sCallVi (M' := mX6_shopAt) (rm' := rmD 9 9 54) (As := [.int (nI p), .int (nI j)]) (rest := []) dL_isSoldSo_125 rfl mk_X6_shopAt mi_X6_shopAt ll_L_77 ⟨(Nat.le_of_ble_eq_true rfl), (Nat.le_of_ble_eq_true rfl)⟩ ho.1 (by decide) rfl rfl (Nat.le_of_ble_eq_true rfl) (Nat.le_of_ble_eq_true rfl) (q_shopAt ho w7.1  hfl hp hj) rfl (Nat.le_of_ble_eq_true rfl) (fun v s8 hv => ?_)
    have w8 := w2_0 w7 hv
    obtain ⟨rfl, -, -⟩ := hv
    refine RW.widen (k := 218) (n := 1308) (Nat.le_of_ble_eq_true rfl) (Nat.le_of_ble_eq_true rfl) ?_
    show RW G _ _ _ _ 128 [some (.ref (ad V 0)), some (.ref (ad V 47)), some (.int (nI p)), some (.int (nI j)), some (.int (nI (pGold (hY h p)))), some (.int (nI k)), some (.int (nI ((pBen (hY h p)).length))), some (.int (nI ((pBrd (hY h p)).length + (pBen (hY h p)).length))), some (.int (-99999)), some (.int (nI 1)), none] [.int (shI (pShp (hY h p) j))] _ _ _
    refine tTop (w := (nI (k))) (by rw [es]; rfl) ?_
    refine rIload dL_isSoldSo_128 rfl ?_
    refine r_icmp_ne (tgt := 137) dL_isSoldSo_130 (by decide) (fun c => absurd rfl c) (fun c => ?_)
    refine rIconst (v := (nI (1))) dL_isSoldSo_133 (by decide) ?_
    refine rGoto (tgt := 138) dL_isSoldSo_134 (by decide) ?_
    exact sIret dL_isSoldSo_138 rfl rfl (Nat.le_of_ble_eq_true rfl) (Nat.le_of_ble_eq_true rfl) ⟨_, rfl, rfl, h, hg, w8⟩
set_option maxRecDepth 100000 in
set_option maxHeartbeats 4000000 in
theorem soldY {G : gG} {V : wV} {lo : Nat → Int64} (ho : hallAt V 0) (hq : hallAt V 47) {s : sgT} {h : hT} (hw : W2 s h h) (hg : good h) (hfl : (gl G).stackTraces = false) {p j : Nat} (hp : p < 4) (hj : j < 3) {k : Nat} (es : pShp (hY h p) j = some k) (c1 : ¬ pGold (hY h p) < cst k) (c2 : ¬ (pBen (hY h p)).length = 6) : CSi G V mL_isSoldSo cL_isSoldSo (rmD 12 560 3360) [.ref (ad V 0), .ref (ad V 47), .int (nI p), .int (nI j)] s lo (fun v s' => v = nI 1 ∧ ∃ h', good h' ∧ W2 s' h' h') (fun _ => False) := by
  refine CSi.of (L := [some (.ref (ad V 0)), some (.ref (ad V 47)), some (.int (nI p)), some (.int (nI j)), none, none, none, none, none, none, none]) rfl (by decide +kernel) rfl (Nat.le_of_ble_eq_true rfl) rfl ?_
  obtain ⟨o1, o2, o3, o4, o5, o6, o7, o8, o9⟩ := hg.1.2.2.1 p hp
  have hd : (pBrd (hY h p)).length ≤ 5 := (plOk_len hg.1 hp).2.1
  have eq4 := bu_yes hp hj es c1 c2
  have e4 := doY eq4
  have g4 : good (buH h p j k) := gd_at hg e4
  have hk9 : k < 9 := o5 j hj k es
  have hcst : cst k = k / 3 + 1 := rfl
  obtain ⟨u1, u2, u3, u4⟩ := buH_at (h := h) (p := p) (j := j) (k := k)
  obtain ⟨m, hm, hm2⟩ := buB_len (h := h) (p := p) (k := k)
  obtain ⟨U, eU⟩ : ∃ U, U = (buB h p k).1.length + (buB h p k).2.length := ⟨_, rfl⟩
  rw [← eU] at hm
  refine rAload_n dL_isSoldSo_0 rfl ?_
  refine rIload_n dL_isSoldSo_1 rfl ?_
  refine sCallVi (M' := mX6_gold) (rm' := rmD 9 9 54) (As := [.int (nI p)]) (rest := []) dL_isSoldSo_2 rfl mk_X6_gold mi_X6_gold ll_L_68 ⟨(Nat.le_of_ble_eq_true rfl), (Nat.le_of_ble_eq_true rfl)⟩ ho.1 (by decide) rfl rfl (Nat.le_of_ble_eq_true rfl) (Nat.le_of_ble_eq_true rfl) (q_gold ho hw.1  hfl hp) rfl (Nat.le_of_ble_eq_true rfl) (fun v s1 hv => ?_)
  have w1 := w2_0 hw hv
  obtain ⟨rfl, -, -⟩ := hv
  refine RW.widen (k := 9) (n := 54) (Nat.le_of_ble_eq_true rfl) (Nat.le_of_ble_eq_true rfl) ?_
  show RW G _ _ _ _ 5 [some (.ref (ad V 0)), some (.ref (ad V 47)), some (.int (nI p)), some (.int (nI j)), none, none, none, none, none, none, none] [.int (nI (pGold (hY h p)))] _ _ _
  refine rIstore dL_isSoldSo_5 (by decide) ?_
  show RW G _ _ _ _ 7 [some (.ref (ad V 0)), some (.ref (ad V 47)), some (.int (nI p)), some (.int (nI j)), some (.int (nI (pGold (hY h p)))), none, none, none, none, none, none] [] _ _ _
  refine rAload_n dL_isSoldSo_7 rfl ?_
  refine rIload_n dL_isSoldSo_8 rfl ?_
  refine rIload_n dL_isSoldSo_9 rfl ?_
  refine sCallVi (M' := mX6_shopAt) (rm' := rmD 9 9 54) (As := [.int (nI p), .int (nI j)]) (rest := []) dL_isSoldSo_10 rfl mk_X6_shopAt mi_X6_shopAt ll_L_77 ⟨(Nat.le_of_ble_eq_true rfl), (Nat.le_of_ble_eq_true rfl)⟩ ho.1 (by decide) rfl rfl (Nat.le_of_ble_eq_true rfl) (Nat.le_of_ble_eq_true rfl) (q_shopAt ho w1.1  hfl hp hj) rfl (Nat.le_of_ble_eq_true rfl) (fun v s2 hv => ?_)
  have w2 := w2_0 w1 hv
  obtain ⟨rfl, -, -⟩ := hv
  refine RW.widen (k := 18) (n := 108) (Nat.le_of_ble_eq_true rfl) (Nat.le_of_ble_eq_true rfl) ?_
  show RW G _ _ _ _ 13 [some (.ref (ad V 0)), some (.ref (ad V 47)), some (.int (nI p)), some (.int (nI j)), some (.int (nI (pGold (hY h p)))), none, none, none, none, none, none] [.int (shI (pShp (hY h p) j))] _ _ _
  refine tTop (w := (nI (k))) (by rw [es]; rfl) ?_
  refine rIstore dL_isSoldSo_13 (by decide) ?_
  show RW G _ _ _ _ 15 [some (.ref (ad V 0)), some (.ref (ad V 47)), some (.int (nI p)), some (.int (nI j)), some (.int (nI (pGold (hY h p)))), some (.int (nI k)), none, none, none, none, none] [] _ _ _
  refine rAload_n dL_isSoldSo_15 rfl ?_
  refine rIload_n dL_isSoldSo_16 rfl ?_
  refine sCallSi (M' := mL_bench) (rm' := rmD 10 54 324) (As := [.ref (ad V 0), .int (nI p)]) (rest := []) dL_isSoldSo_17 rfl mk_L_bench ms_L_bench ll_L_87 ⟨(Nat.le_of_ble_eq_true rfl), (Nat.le_of_ble_eq_true rfl)⟩ rfl (Nat.le_of_ble_eq_true rfl) (Nat.le_of_ble_eq_true rfl) (c_L_bench ho w2.1 hg hfl hp) rfl (Nat.le_of_ble_eq_true rfl) (fun v s3 hv => ?_)
  have w3 := w2_0 w2 hv
  obtain ⟨rfl, -, -⟩ := hv
  refine RW.widen (k := 72) (n := 432) (Nat.le_of_ble_eq_true rfl) (Nat.le_of_ble_eq_true rfl) ?_
  show RW G _ _ _ _ 20 [some (.ref (ad V 0)), some (.ref (ad V 47)), some (.int (nI p)), some (.int (nI j)), some (.int (nI (pGold (hY h p)))), some (.int (nI k)), none, none, none, none, none] [.int (nI ((pBen (hY h p)).length))] _ _ _
  refine rIstore dL_isSoldSo_20 (by decide) ?_
  show RW G _ _ _ _ 22 [some (.ref (ad V 0)), some (.ref (ad V 47)), some (.int (nI p)), some (.int (nI j)), some (.int (nI (pGold (hY h p)))), some (.int (nI k)), some (.int (nI ((pBen (hY h p)).length))), none, none, none, none] [] _ _ _
  refine rAload_n dL_isSoldSo_22 rfl ?_
  refine rIload_n dL_isSoldSo_23 rfl ?_
  refine sCallSi (M' := mL_units) (rm' := rmD 10 108 648) (As := [.ref (ad V 0), .int (nI p)]) (rest := []) dL_isSoldSo_24 rfl mk_L_units ms_L_units ll_L_84 ⟨(Nat.le_of_ble_eq_true rfl), (Nat.le_of_ble_eq_true rfl)⟩ rfl (Nat.le_of_ble_eq_true rfl) (Nat.le_of_ble_eq_true rfl) (c_L_units ho w3.1 hg hfl hp) rfl (Nat.le_of_ble_eq_true rfl) (fun v s4 hv => ?_)
  have w4 := w2_0 w3 hv
  obtain ⟨rfl, -, -⟩ := hv
  refine RW.widen (k := 180) (n := 1080) (Nat.le_of_ble_eq_true rfl) (Nat.le_of_ble_eq_true rfl) ?_
  show RW G _ _ _ _ 27 [some (.ref (ad V 0)), some (.ref (ad V 47)), some (.int (nI p)), some (.int (nI j)), some (.int (nI (pGold (hY h p)))), some (.int (nI k)), some (.int (nI ((pBen (hY h p)).length))), none, none, none, none] [.int (nI ((pBrd (hY h p)).length + (pBen (hY h p)).length))] _ _ _
  refine rIstore dL_isSoldSo_27 (by decide) ?_
  show RW G _ _ _ _ 29 [some (.ref (ad V 0)), some (.ref (ad V 47)), some (.int (nI p)), some (.int (nI j)), some (.int (nI (pGold (hY h p)))), some (.int (nI k)), some (.int (nI ((pBen (hY h p)).length))), some (.int (nI ((pBrd (hY h p)).length + (pBen (hY h p)).length))), none, none, none] [] _ _ _
  refine rAload_n dL_isSoldSo_29 rfl ?_
  refine rIconst (v := (nI (4))) dL_isSoldSo_30 (by decide) ?_
  refine rIload_n dL_isSoldSo_31 rfl ?_
  refine rIload_n dL_isSoldSo_32 rfl ?_
  refine sCallW (M' := mL_does) (rm' := rmD 10 10 60) (As := [.ref (ad V 0), .int (nI 4), .int (nI p), .int (nI j)]) (rest := []) dL_isSoldSo_33 (by decide) mk_L_does ms_L_does lw_L_61 ⟨(Nat.le_of_ble_eq_true rfl), (Nat.le_of_ble_eq_true rfl)⟩ rfl (Nat.le_of_ble_eq_true rfl) (Nat.le_of_ble_eq_true rfl) (c_does_at ho w4.1 hg hfl (by decide) e4) rfl (Nat.le_of_ble_eq_true rfl) (fun v s5 hv => ?_)
  have w5 := w2_0 w4 hv
  obtain ⟨rfl, -, -⟩ := hv
  refine RW.widen (k := 190) (n := 1140) (Nat.le_of_ble_eq_true rfl) (Nat.le_of_ble_eq_true rfl) ?_
  show RW G _ _ _ _ 36 [some (.ref (ad V 0)), some (.ref (ad V 47)), some (.int (nI p)), some (.int (nI j)), some (.int (nI (pGold (hY h p)))), some (.int (nI k)), some (.int (nI ((pBen (hY h p)).length))), some (.int (nI ((pBrd (hY h p)).length + (pBen (hY h p)).length))), none, none, none] [.int (nI (pGold (hY h p) - cst k))] _ _ _
  refine rIstore dL_isSoldSo_36 (by decide) ?_
  show RW G _ _ _ _ 38 [some (.ref (ad V 0)), some (.ref (ad V 47)), some (.int (nI p)), some (.int (nI j)), some (.int (nI (pGold (hY h p)))), some (.int (nI k)), some (.int (nI ((pBen (hY h p)).length))), some (.int (nI ((pBrd (hY h p)).length + (pBen (hY h p)).length))), some (.int (nI (pGold (hY h p) - cst k))), none, none] [] _ _ _
  refine rAload_n dL_isSoldSo_38 rfl ?_
  refine rIconst (v := (nI (4))) dL_isSoldSo_39 (by decide) ?_
  refine rIload_n dL_isSoldSo_40 rfl ?_
  refine rIload_n dL_isSoldSo_41 rfl ?_
  refine sCallW (M' := mL_does) (rm' := rmD 10 10 60) (As := [.ref (ad V 47), .int (nI 4), .int (nI p), .int (nI j)]) (rest := []) dL_isSoldSo_42 (by decide) mk_L_does ms_L_does lw_L_61 ⟨(Nat.le_of_ble_eq_true rfl), (Nat.le_of_ble_eq_true rfl)⟩ rfl (Nat.le_of_ble_eq_true rfl) (Nat.le_of_ble_eq_true rfl) (c_does_at hq w5.2 hg hfl (by decide) e4) rfl (Nat.le_of_ble_eq_true rfl) (fun v s6 hv => ?_)
  have w6 := w2_1 w5 hv
  obtain ⟨rfl, -, -⟩ := hv
  refine RW.widen (k := 200) (n := 1200) (Nat.le_of_ble_eq_true rfl) (Nat.le_of_ble_eq_true rfl) ?_
  show RW G _ _ _ _ 45 [some (.ref (ad V 0)), some (.ref (ad V 47)), some (.int (nI p)), some (.int (nI j)), some (.int (nI (pGold (hY h p)))), some (.int (nI k)), some (.int (nI ((pBen (hY h p)).length))), some (.int (nI ((pBrd (hY h p)).length + (pBen (hY h p)).length))), some (.int (nI (pGold (hY h p) - cst k))), none, none] [.int (nI (pGold (hY h p) - cst k))] _ _ _
  refine rIload dL_isSoldSo_45 rfl ?_
  refine r_icmp_ne (tgt := 97) dL_isSoldSo_47 (by decide) (fun c => absurd rfl c) (fun c => ?_)
  refine rIload dL_isSoldSo_50 rfl ?_
  refine rLdc (v := -99999) dL_isSoldSo_52 kc_L_43 ?_
  refine r_icmp_ne (tgt := 61) dL_isSoldSo_54 (by decide) (fun c => ?_) (fun c => absurd c (nI_m9 (by omega)))
  refine rIconst (v := (nI (0))) dL_isSoldSo_61 (by decide) ?_
  refine rIload dL_isSoldSo_62 rfl ?_
  refine r_if_lt (tgt := 85) dL_isSoldSo_64 (by decide) (fun c => absurd c (nI_pos (by omega))) (fun c => ?_)
  refine rIload dL_isSoldSo_67 rfl ?_
  refine rIload dL_isSoldSo_69 rfl ?_
  refine rIconst (v := (nI (3))) dL_isSoldSo_71 (by decide) ?_
  refine nIdiv dL_isSoldSo_72 (by omega) (by decide) (by decide) ?_
  refine rIconst (v := (nI (1))) dL_isSoldSo_73 (by decide) ?_
  refine nIadd dL_isSoldSo_74 ?_
  refine r_icmp_lt (tgt := 85) dL_isSoldSo_75 (by decide) (fun c => absurd ((nI_ltI (by omega) (by omega)).mp c) (by omega)) (fun c => ?_)
  refine rIload dL_isSoldSo_78 rfl ?_
  refine rBipush (v := (nI (6))) dL_isSoldSo_80 (by decide) ?_
  refine r_icmp_ne (tgt := 89) dL_isSoldSo_82 (by decide) (fun c => ?_) (fun c => absurd ((nI_eq (by omega) (by omega)).mp c) c2)
  refine rIconst (v := (nI (0))) dL_isSoldSo_89 (by decide) ?_
  refine r_icmp_ne (tgt := 97) dL_isSoldSo_90 (by decide) (fun c => absurd rfl c) (fun c => ?_)
  refine rIconst (v := (nI (1))) dL_isSoldSo_93 (by decide) ?_
  refine rGoto (tgt := 98) dL_isSoldSo_94 (by decide) ?_
  refine rIstore dL_isSoldSo_98 (by decide) ?_
  show RW G _ _ _ _ 100 [some (.ref (ad V 0)), some (.ref (ad V 47)), some (.int (nI p)), some (.int (nI j)), some (.int (nI (pGold (hY h p)))), some (.int (nI k)), some (.int (nI ((pBen (hY h p)).length))), some (.int (nI ((pBrd (hY h p)).length + (pBen (hY h p)).length))), some (.int (nI (pGold (hY h p) - cst k))), some (.int (nI 1)), none] [] _ _ _
  refine rIload dL_isSoldSo_100 rfl ?_
  refine rLdc (v := -99999) dL_isSoldSo_102 kc_L_43 ?_
  refine r_icmp_ne (tgt := 139) dL_isSoldSo_104 (by decide) (fun c => ?_) (fun c => absurd c (nI_m9 (by omega)))
  refine rIload dL_isSoldSo_139 rfl ?_
  refine r_if_eq (tgt := 172) dL_isSoldSo_141 (by decide) (fun c => absurd c (by decide)) (fun c => ?_)
  refine rIload dL_isSoldSo_144 rfl ?_
  refine rIload dL_isSoldSo_146 rfl ?_
  refine rIload dL_isSoldSo_148 rfl ?_
  refine rIconst (v := (nI (3))) dL_isSoldSo_150 (by decide) ?_
  refine nIdiv dL_isSoldSo_151 (by omega) (by decide) (by decide) ?_
  refine nIsub dL_isSoldSo_152 (by omega) ?_
  refine rIconst (v := (nI (1))) dL_isSoldSo_153 (by decide) ?_
  refine nIsub dL_isSoldSo_154 (by omega) ?_
  refine r_icmp_ne (tgt := 172) dL_isSoldSo_155 (by decide) (fun c => absurd (congrArg nI (by omega)) c) (fun c => ?_)
  refine rAload_n dL_isSoldSo_158 rfl ?_
  refine rIload_n dL_isSoldSo_159 rfl ?_
  refine rIload_n dL_isSoldSo_160 rfl ?_
  refine sCallVi (M' := mX6_shopAt) (rm' := rmD 9 9 54) (As := [.int (nI p), .int (nI j)]) (rest := []) dL_isSoldSo_161 rfl mk_X6_shopAt mi_X6_shopAt ll_L_77 ⟨(Nat.le_of_ble_eq_true rfl), (Nat.le_of_ble_eq_true rfl)⟩ ho.1 (by decide) rfl rfl (Nat.le_of_ble_eq_true rfl) (Nat.le_of_ble_eq_true rfl) (q_shopAt ho w6.1  hfl hp hj) rfl (Nat.le_of_ble_eq_true rfl) (fun v s7 hv => ?_)
  have w7 := w2_0 w6 hv
  obtain ⟨rfl, -, -⟩ := hv
  refine RW.widen (k := 209) (n := 1254) (Nat.le_of_ble_eq_true rfl) (Nat.le_of_ble_eq_true rfl) ?_
  show RW G _ _ _ _ 164 [some (.ref (ad V 0)), some (.ref (ad V 47)), some (.int (nI p)), some (.int (nI j)), some (.int (nI (pGold (hY h p)))), some (.int (nI k)), some (.int (nI ((pBen (hY h p)).length))), some (.int (nI ((pBrd (hY h p)).length + (pBen (hY h p)).length))), some (.int (nI (pGold (hY h p) - cst k))), some (.int (nI 1)), none] [.int (shI (pShp (hY (buH h p j k) p) j))] _ _ _
  refine tTop (w := (-1)) (by rw [u4]; rfl) ?_
  refine rIconst (v := (-1)) dL_isSoldSo_164 (by decide) ?_
  refine r_icmp_ne (tgt := 172) dL_isSoldSo_165 (by decide) (fun c => absurd rfl c) (fun c => ?_)
  refine rIconst (v := (nI (1))) dL_isSoldSo_168 (by decide) ?_
  refine rGoto (tgt := 173) dL_isSoldSo_169 (by decide) ?_
  refine rIstore dL_isSoldSo_173 (by decide) ?_
  show RW G _ _ _ _ 175 [some (.ref (ad V 0)), some (.ref (ad V 47)), some (.int (nI p)), some (.int (nI j)), some (.int (nI (pGold (hY h p)))), some (.int (nI k)), some (.int (nI ((pBen (hY h p)).length))), some (.int (nI ((pBrd (hY h p)).length + (pBen (hY h p)).length))), some (.int (nI (pGold (hY h p) - cst k))), some (.int (nI 1)), none] [] _ _ _
  refine rAload_n dL_isSoldSo_175 rfl ?_
  refine rIload_n dL_isSoldSo_176 rfl ?_
  refine sCallSi (M' := mL_units) (rm' := rmD 10 108 648) (As := [.ref (ad V 0), .int (nI p)]) (rest := []) dL_isSoldSo_177 rfl mk_L_units ms_L_units ll_L_84 ⟨(Nat.le_of_ble_eq_true rfl), (Nat.le_of_ble_eq_true rfl)⟩ rfl (Nat.le_of_ble_eq_true rfl) (Nat.le_of_ble_eq_true rfl) (c_L_units ho w7.1 g4 hfl hp) rfl (Nat.le_of_ble_eq_true rfl) (fun v s8 hv => ?_)
  have w8 := w2_0 w7 hv
  obtain ⟨rfl, -, -⟩ := hv
  refine RW.widen (k := 317) (n := 1902) (Nat.le_of_ble_eq_true rfl) (Nat.le_of_ble_eq_true rfl) ?_
  show RW G _ _ _ _ 180 [some (.ref (ad V 0)), some (.ref (ad V 47)), some (.int (nI p)), some (.int (nI j)), some (.int (nI (pGold (hY h p)))), some (.int (nI k)), some (.int (nI ((pBen (hY h p)).length))), some (.int (nI ((pBrd (hY h p)).length + (pBen (hY h p)).length))), some (.int (nI (pGold (hY h p) - cst k))), some (.int (nI 1)), none] [.int (nI ((pBrd (hY (buH h p j k) p)).length + (pBen (hY (buH h p j k) p)).length))] _ _ _
  refine tTop (w := (nI (U))) (congrArg nI (by rw [u2, u3, eU])) ?_
  refine rIload dL_isSoldSo_180 rfl ?_
  refine rIconst (v := (nI (1))) dL_isSoldSo_182 (by decide) ?_
  refine nIadd dL_isSoldSo_183 ?_
  refine r_icmp_eq (tgt := 213) dL_isSoldSo_184 (by decide) (fun c_184 => ?_) (fun c_184 => ?_)
  · have c_184 : U = (((pBrd (hY h p)).length + (pBen (hY h p)).length) + 1) := (nI_eq (by omega) (by omega)).mp c_184
    have eB := hm2 (by omega)
    have e5 := doY (se_yes (j := j) hg hp c1 eB)
    have g5 : good (seH h p j k) := gd_at g4 e5
    obtain ⟨s1x, s2x, s3x⟩ := seH_at (h := h) (p := p) (j := j) (k := k)
    refine rAload_n dL_isSoldSo_213 rfl ?_
    refine rIload dL_isSoldSo_214 rfl ?_
    refine sCallVi (M' := mX6_pool) (rm' := rmD 9 9 54) (As := [.int (nI k)]) (rest := []) dL_isSoldSo_216 rfl mk_X6_pool mi_X6_pool ll_L_90 ⟨(Nat.le_of_ble_eq_true rfl), (Nat.le_of_ble_eq_true rfl)⟩ ho.1 (by decide) rfl rfl (Nat.le_of_ble_eq_true rfl) (Nat.le_of_ble_eq_true rfl) (q_pool ho w8.1  hfl hk9) rfl (Nat.le_of_ble_eq_true rfl) (fun v s9 hv => ?_)
    have w9 := w2_0 w8 hv
    obtain ⟨rfl, -, -⟩ := hv
    refine RW.widen (k := 326) (n := 1956) (Nat.le_of_ble_eq_true rfl) (Nat.le_of_ble_eq_true rfl) ?_
    show RW G _ _ _ _ 219 [some (.ref (ad V 0)), some (.ref (ad V 47)), some (.int (nI p)), some (.int (nI j)), some (.int (nI (pGold (hY h p)))), some (.int (nI k)), some (.int (nI ((pBen (hY h p)).length))), some (.int (nI ((pBrd (hY h p)).length + (pBen (hY h p)).length))), some (.int (nI (pGold (hY h p) - cst k))), some (.int (nI 1)), none] [.int (nI (hP (buH h p j k) k))] _ _ _
    refine rIstore dL_isSoldSo_219 (by decide) ?_
    show RW G _ _ _ _ 221 [some (.ref (ad V 0)), some (.ref (ad V 47)), some (.int (nI p)), some (.int (nI j)), some (.int (nI (pGold (hY h p)))), some (.int (nI k)), some (.int (nI ((pBen (hY h p)).length))), some (.int (nI ((pBrd (hY h p)).length + (pBen (hY h p)).length))), some (.int (nI (pGold (hY h p) - cst k))), some (.int (nI 1)), some (.int (nI (hP (buH h p j k) k)))] [] _ _ _
    refine rIload dL_isSoldSo_221 rfl ?_
    refine r_if_eq (tgt := 260) dL_isSoldSo_223 (by decide) (fun c => absurd c (by decide)) (fun c => ?_)
    refine rAload_n dL_isSoldSo_226 rfl ?_
    refine rIload_n dL_isSoldSo_227 rfl ?_
    refine rIload dL_isSoldSo_228 rfl ?_
    refine sCallVi (M' := mX6_benchAt) (rm' := rmD 9 9 54) (As := [.int (nI p), .int (nI ((pBen (hY h p)).length))]) (rest := []) dL_isSoldSo_230 rfl mk_X6_benchAt mi_X6_benchAt ll_L_50 ⟨(Nat.le_of_ble_eq_true rfl), (Nat.le_of_ble_eq_true rfl)⟩ ho.1 (by decide) rfl rfl (Nat.le_of_ble_eq_true rfl) (Nat.le_of_ble_eq_true rfl) (q_benchAt ho w9.1 g4 hfl hp (by omega)) rfl (Nat.le_of_ble_eq_true rfl) (fun v s10 hv => ?_)
    have w10 := w2_0 w9 hv
    obtain ⟨rfl, -, -⟩ := hv
    refine RW.widen (k := 335) (n := 2010) (Nat.le_of_ble_eq_true rfl) (Nat.le_of_ble_eq_true rfl) ?_
    show RW G _ _ _ _ 233 [some (.ref (ad V 0)), some (.ref (ad V 47)), some (.int (nI p)), some (.int (nI j)), some (.int (nI (pGold (hY h p)))), some (.int (nI k)), some (.int (nI ((pBen (hY h p)).length))), some (.int (nI ((pBrd (hY h p)).length + (pBen (hY h p)).length))), some (.int (nI (pGold (hY h p) - cst k))), some (.int (nI 1)), some (.int (nI (hP (buH h p j k) k)))] [.int (rowU (pBen (hY (buH h p j k) p)) ((pBen (hY h p)).length))] _ _ _
    refine tTop (w := (nI (10 * k + 1))) (by rw [u3, eB]; show rowU (pBen (hY h p) ++ [10 * k + 1]) (pBen (hY h p)).length = _; exact (if_pos (by rw [List.length_append]; exact Nat.lt_succ_self _)).trans (congrArg nI app_last)) ?_
    refine rBipush (v := (nI (10))) dL_isSoldSo_233 (by decide) ?_
    refine rIload dL_isSoldSo_235 rfl ?_
    refine nImul dL_isSoldSo_237 ?_
    refine rIconst (v := (nI (1))) dL_isSoldSo_238 (by decide) ?_
    refine nIadd dL_isSoldSo_239 ?_
    refine r_icmp_ne (tgt := 260) dL_isSoldSo_240 (by decide) (fun c => absurd rfl c) (fun c => ?_)
    refine rAload_n dL_isSoldSo_243 rfl ?_
    refine rIconst (v := (nI (5))) dL_isSoldSo_244 (by decide) ?_
    refine rIload_n dL_isSoldSo_245 rfl ?_
    refine rIload dL_isSoldSo_246 rfl ?_
    refine sCallW (M' := mL_does) (rm' := rmD 10 10 60) (As := [.ref (ad V 0), .int (nI 5), .int (nI p), .int (nI ((pBen (hY h p)).length))]) (rest := []) dL_isSoldSo_248 (by decide) mk_L_does ms_L_does lw_L_61 ⟨(Nat.le_of_ble_eq_true rfl), (Nat.le_of_ble_eq_true rfl)⟩ rfl (Nat.le_of_ble_eq_true rfl) (Nat.le_of_ble_eq_true rfl) (c_does_at ho w10.1 g4 hfl (by decide) e5) rfl (Nat.le_of_ble_eq_true rfl) (fun v s11 hv => ?_)
    have w11 := w2_0 w10 hv
    obtain ⟨rfl, -, -⟩ := hv
    refine RW.widen (k := 345) (n := 2070) (Nat.le_of_ble_eq_true rfl) (Nat.le_of_ble_eq_true rfl) ?_
    show RW G _ _ _ _ 251 [some (.ref (ad V 0)), some (.ref (ad V 47)), some (.int (nI p)), some (.int (nI j)), some (.int (nI (pGold (hY h p)))), some (.int (nI k)), some (.int (nI ((pBen (hY h p)).length))), some (.int (nI ((pBrd (hY h p)).length + (pBen (hY h p)).length))), some (.int (nI (pGold (hY h p) - cst k))), some (.int (nI 1)), some (.int (nI (hP (buH h p j k) k)))] [.int (nI (pGold (hY h p)))] _ _ _
    refine rIload dL_isSoldSo_251 rfl ?_
    refine r_icmp_ne (tgt := 260) dL_isSoldSo_253 (by decide) (fun c => absurd rfl c) (fun c => ?_)
    refine rIconst (v := (nI (1))) dL_isSoldSo_256 (by decide) ?_
    refine rGoto (tgt := 261) dL_isSoldSo_257 (by decide) ?_
    refine rIstore dL_isSoldSo_261 (by decide) ?_
    show RW G _ _ _ _ 263 [some (.ref (ad V 0)), some (.ref (ad V 47)), some (.int (nI p)), some (.int (nI j)), some (.int (nI (pGold (hY h p)))), some (.int (nI k)), some (.int (nI ((pBen (hY h p)).length))), some (.int (nI ((pBrd (hY h p)).length + (pBen (hY h p)).length))), some (.int (nI (pGold (hY h p) - cst k))), some (.int (nI 1)), some (.int (nI (hP (buH h p j k) k)))] [] _ _ _
    refine rIload dL_isSoldSo_263 rfl ?_
    refine r_if_eq (tgt := 308) dL_isSoldSo_265 (by decide) (fun c => absurd c (by decide)) (fun c => ?_)
    refine rAload_n dL_isSoldSo_268 rfl ?_
    refine rIconst (v := (nI (5))) dL_isSoldSo_269 (by decide) ?_
    refine rIload_n dL_isSoldSo_270 rfl ?_
    refine rIload dL_isSoldSo_271 rfl ?_
    refine sCallW (M' := mL_does) (rm' := rmD 10 10 60) (As := [.ref (ad V 47), .int (nI 5), .int (nI p), .int (nI ((pBen (hY h p)).length))]) (rest := []) dL_isSoldSo_273 (by decide) mk_L_does ms_L_does lw_L_61 ⟨(Nat.le_of_ble_eq_true rfl), (Nat.le_of_ble_eq_true rfl)⟩ rfl (Nat.le_of_ble_eq_true rfl) (Nat.le_of_ble_eq_true rfl) (c_does_at hq w11.2 g4 hfl (by decide) e5) rfl (Nat.le_of_ble_eq_true rfl) (fun v s12 hv => ?_)
    have w12 := w2_1 w11 hv
    obtain ⟨rfl, -, -⟩ := hv
    refine RW.widen (k := 355) (n := 2130) (Nat.le_of_ble_eq_true rfl) (Nat.le_of_ble_eq_true rfl) ?_
    show RW G _ _ _ _ 276 [some (.ref (ad V 0)), some (.ref (ad V 47)), some (.int (nI p)), some (.int (nI j)), some (.int (nI (pGold (hY h p)))), some (.int (nI k)), some (.int (nI ((pBen (hY h p)).length))), some (.int (nI ((pBrd (hY h p)).length + (pBen (hY h p)).length))), some (.int (nI (pGold (hY h p) - cst k))), some (.int (nI 1)), some (.int (nI (hP (buH h p j k) k)))] [.int (nI (pGold (hY h p)))] _ _ _
    refine rIload dL_isSoldSo_276 rfl ?_
    refine r_icmp_ne (tgt := 308) dL_isSoldSo_278 (by decide) (fun c => absurd rfl c) (fun c => ?_)
    refine rAload_n dL_isSoldSo_281 rfl ?_
    refine rIload dL_isSoldSo_282 rfl ?_
    refine sCallVi (M' := mX6_pool) (rm' := rmD 9 9 54) (As := [.int (nI k)]) (rest := []) dL_isSoldSo_284 rfl mk_X6_pool mi_X6_pool ll_L_90 ⟨(Nat.le_of_ble_eq_true rfl), (Nat.le_of_ble_eq_true rfl)⟩ ho.1 (by decide) rfl rfl (Nat.le_of_ble_eq_true rfl) (Nat.le_of_ble_eq_true rfl) (q_pool ho w12.1  hfl hk9) rfl (Nat.le_of_ble_eq_true rfl) (fun v s13 hv => ?_)
    have w13 := w2_0 w12 hv
    obtain ⟨rfl, -, -⟩ := hv
    refine RW.widen (k := 364) (n := 2184) (Nat.le_of_ble_eq_true rfl) (Nat.le_of_ble_eq_true rfl) ?_
    show RW G _ _ _ _ 287 [some (.ref (ad V 0)), some (.ref (ad V 47)), some (.int (nI p)), some (.int (nI j)), some (.int (nI (pGold (hY h p)))), some (.int (nI k)), some (.int (nI ((pBen (hY h p)).length))), some (.int (nI ((pBrd (hY h p)).length + (pBen (hY h p)).length))), some (.int (nI (pGold (hY h p) - cst k))), some (.int (nI 1)), some (.int (nI (hP (buH h p j k) k)))] [.int (nI (hP (seH h p j k) k))] _ _ _
    refine tTop (w := (nI (hP (buH h p j k) k + 1))) (congrArg nI s3x) ?_
    refine rIload dL_isSoldSo_287 rfl ?_
    refine rIconst (v := (nI (1))) dL_isSoldSo_289 (by decide) ?_
    refine nIadd dL_isSoldSo_290 ?_
    refine r_icmp_ne (tgt := 308) dL_isSoldSo_291 (by decide) (fun c => absurd rfl c) (fun c => ?_)
    refine rAload_n dL_isSoldSo_294 rfl ?_
    refine rIload_n dL_isSoldSo_295 rfl ?_
    refine sCallSi (M' := mL_bench) (rm' := rmD 10 54 324) (As := [.ref (ad V 0), .int (nI p)]) (rest := []) dL_isSoldSo_296 rfl mk_L_bench ms_L_bench ll_L_87 ⟨(Nat.le_of_ble_eq_true rfl), (Nat.le_of_ble_eq_true rfl)⟩ rfl (Nat.le_of_ble_eq_true rfl) (Nat.le_of_ble_eq_true rfl) (c_L_bench ho w13.1 g5 hfl hp) rfl (Nat.le_of_ble_eq_true rfl) (fun v s14 hv => ?_)
    have w14 := w2_0 w13 hv
    obtain ⟨rfl, -, -⟩ := hv
    refine RW.widen (k := 418) (n := 2508) (Nat.le_of_ble_eq_true rfl) (Nat.le_of_ble_eq_true rfl) ?_
    show RW G _ _ _ _ 299 [some (.ref (ad V 0)), some (.ref (ad V 47)), some (.int (nI p)), some (.int (nI j)), some (.int (nI (pGold (hY h p)))), some (.int (nI k)), some (.int (nI ((pBen (hY h p)).length))), some (.int (nI ((pBrd (hY h p)).length + (pBen (hY h p)).length))), some (.int (nI (pGold (hY h p) - cst k))), some (.int (nI 1)), some (.int (nI (hP (buH h p j k) k)))] [.int (nI ((pBen (hY (seH h p j k) p)).length))] _ _ _
    refine tTop (w := (nI ((pBen (hY h p)).length))) (congrArg nI (by rw [s2x])) ?_
    refine rIload dL_isSoldSo_299 rfl ?_
    refine r_icmp_ne (tgt := 308) dL_isSoldSo_301 (by decide) (fun c => absurd rfl c) (fun c => ?_)
    refine rIconst (v := (nI (1))) dL_isSoldSo_304 (by decide) ?_
    refine rGoto (tgt := 309) dL_isSoldSo_305 (by decide) ?_
    exact sIret dL_isSoldSo_309 rfl rfl (Nat.le_of_ble_eq_true rfl) (Nat.le_of_ble_eq_true rfl) ⟨_, rfl, rfl, seH h p j k, g5, w14⟩
  · have c_184 : ¬ (U = (((pBrd (hY h p)).length + (pBen (hY h p)).length) + 1)) := fun h => c_184 ((nI_eq (by omega) (by omega)).mpr h)
    refine rIload dL_isSoldSo_187 rfl ?_
    refine r_if_eq (tgt := 211) dL_isSoldSo_189 (by decide) (fun c => absurd c (by decide)) (fun c => ?_)
    refine rIload dL_isSoldSo_192 rfl ?_
    refine rIconst (v := (nI (1))) dL_isSoldSo_194 (by decide) ?_
    refine nIadd dL_isSoldSo_195 ?_
    refine rAload_n dL_isSoldSo_196 rfl ?_
    refine rIload_n dL_isSoldSo_197 rfl ?_
    refine sCallSi (M' := mL_units) (rm' := rmD 10 108 648) (As := [.ref (ad V 0), .int (nI p)]) (rest := [.int (nI (((pBrd (hY h p)).length + (pBen (hY h p)).length) + 1))]) dL_isSoldSo_198 rfl mk_L_units ms_L_units ll_L_84 ⟨(Nat.le_of_ble_eq_true rfl), (Nat.le_of_ble_eq_true rfl)⟩ rfl (Nat.le_of_ble_eq_true rfl) (Nat.le_of_ble_eq_true rfl) (c_L_units ho w8.1 g4 hfl hp) rfl (Nat.le_of_ble_eq_true rfl) (fun v s9 hv => ?_)
    have w9 := w2_0 w8 hv
    obtain ⟨rfl, -, -⟩ := hv
    refine RW.widen (k := 425) (n := 2550) (Nat.le_of_ble_eq_true rfl) (Nat.le_of_ble_eq_true rfl) ?_
    show RW G _ _ _ _ 201 [some (.ref (ad V 0)), some (.ref (ad V 47)), some (.int (nI p)), some (.int (nI j)), some (.int (nI (pGold (hY h p)))), some (.int (nI k)), some (.int (nI ((pBen (hY h p)).length))), some (.int (nI ((pBrd (hY h p)).length + (pBen (hY h p)).length))), some (.int (nI (pGold (hY h p) - cst k))), some (.int (nI 1)), none] [.int (nI ((pBrd (hY (buH h p j k) p)).length + (pBen (hY (buH h p j k) p)).length)), .int (nI (((pBrd (hY h p)).length + (pBen (hY h p)).length) + 1))] _ _ _
    refine tTop (w := (nI (U))) (congrArg nI (by rw [u2, u3, eU])) ?_
    refine nIsub dL_isSoldSo_201 (by omega) ?_
    refine rIconst (v := (nI (2))) dL_isSoldSo_202 (by decide) ?_
    refine nIrem dL_isSoldSo_203 (by omega) (by decide) (by decide) ?_
    refine r_if_ne (tgt := 211) dL_isSoldSo_204 (by decide) (fun c => absurd ((nz_eq (by omega)).mpr (by omega)) c) (fun c => ?_)
    refine rIconst (v := (nI (1))) dL_isSoldSo_207 (by decide) ?_
    refine rGoto (tgt := 212) dL_isSoldSo_208 (by decide) ?_
    exact sIret dL_isSoldSo_212 rfl rfl (Nat.le_of_ble_eq_true rfl) (Nat.le_of_ble_eq_true rfl) ⟨_, rfl, rfl, buH h p j k, g4, w9⟩
set_option maxRecDepth 100000 in
set_option maxHeartbeats 4000000 in
theorem c_L_isMovedSo {G : gG} {V : wV} {lo : Nat → Int64} (ho : hallAt V 0) (hq : hallAt V 47) {s : sgT} {h : hT} (hw : W2 s h h) (hg : good h) (hfl : (gl G).stackTraces = false) {p j : Nat} (hp : p < 4) (hj : j < 4) : CSi G V mL_isMovedSo cL_isMovedSo (rmD 12 430 2580) [.ref (ad V 0), .ref (ad V 47), .int (nI p), .int (nI j)] s lo (fun v s' => v = nI 1 ∧ ∃ h', good h' ∧ W2 s' h' h') (fun _ => False) := by
  by_cases e : (fDo h 6 (nI p) (nI j)).1 = 0
  · exact movedY ho hq hw hg hfl hp hj e
  · exact movedN ho hq hw hg hfl hp hj e
set_option maxRecDepth 100000 in
set_option maxHeartbeats 4000000 in
theorem c_L_isSoldSo {G : gG} {V : wV} {lo : Nat → Int64} (ho : hallAt V 0) (hq : hallAt V 47) {s : sgT} {h : hT} (hw : W2 s h h) (hg : good h) (hfl : (gl G).stackTraces = false) {p j : Nat} (hp : p < 4) (hj : j < 3) : CSi G V mL_isSoldSo cL_isSoldSo (rmD 12 560 3360) [.ref (ad V 0), .ref (ad V 47), .int (nI p), .int (nI j)] s lo (fun v s' => v = nI 1 ∧ ∃ h', good h' ∧ W2 s' h' h') (fun _ => False) := by
  cases es : pShp (hY h p) j with
  | none => exact soldN0 ho hq hw hg hfl hp hj es
  | some k =>
    by_cases c1 : pGold (hY h p) < cst k
    · exact soldN1 ho hq hw hg hfl hp hj es (Or.inl c1)
    · by_cases c2 : (pBen (hY h p)).length = 6
      · exact soldN1 ho hq hw hg hfl hp hj es (Or.inr c2)
      · exact soldY ho hq hw hg hfl hp hj es c1 c2
