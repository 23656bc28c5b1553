/-! areAlike, isHallSo, isFoughtSo (by program) -/
set_option maxRecDepth 100000 in
set_option maxHeartbeats 4000000 in
theorem c_L_areAlike {G : gG} {V : wV} {lo : Nat → Int64} (ho : hallAt V 0) (hq : hallAt V 47) {s : sgT} {h : hT} (hw : W2 s h h) (hg : good h) (hfl : (gl G).stackTraces = false) : CSi G V mL_areAlike cL_areAlike (rmD 11 1530 9180) [.ref (ad V 0), .ref (ad V 47)] s lo (fun v s' => v = nI 1 ∧ W2 s' h h) (fun _ => False) := by
  refine CSi.of (L := [some (.ref (ad V 0)), some (.ref (ad V 47)), none, none, none]) rfl (by decide +kernel) rfl (Nat.le_of_ble_eq_true rfl) rfl ?_
  refine rAload_n dL_areAlike_0 rfl ?_
  refine sCallVi (M' := mX6_rounds) (rm' := rmD 9 9 54) (As := []) (rest := []) dL_areAlike_1 rfl mk_X6_rounds mi_X6_rounds ll_L_65 ⟨(Nat.le_of_ble_eq_true rfl), (Nat.le_of_ble_eq_true rfl)⟩ ho.1 (by decide) rfl rfl (Nat.le_of_ble_eq_true rfl) (Nat.le_of_ble_eq_true rfl) (q_rounds ho hw.1  hfl ) rfl (Nat.le_of_ble_eq_true rfl) (fun v s1 hv => ?_)
  have w1 := w2_0 hw hv
  obtain ⟨rfl, -, -⟩ := hv
  refine RW.widen (k := 9) (n := 54) (Nat.le_of_ble_eq_true rfl) (Nat.le_of_ble_eq_true rfl) ?_
  show RW G _ _ _ _ 4 [some (.ref (ad V 0)), some (.ref (ad V 47)), none, none, none] [.int (nI (hR h))] _ _ _
  refine rAload_n dL_areAlike_4 rfl ?_
  refine sCallVi (M' := mX6_rounds) (rm' := rmD 9 9 54) (As := []) (rest := [.int (nI (hR h))]) dL_areAlike_5 rfl mk_X6_rounds mi_X6_rounds ll_L_65 ⟨(Nat.le_of_ble_eq_true rfl), (Nat.le_of_ble_eq_true rfl)⟩ hq.1 (by decide) rfl rfl (Nat.le_of_ble_eq_true rfl) (Nat.le_of_ble_eq_true rfl) (q_rounds hq w1.2  hfl ) rfl (Nat.le_of_ble_eq_true rfl) (fun v s2 hv => ?_)
  have w2 := w2_1 w1 hv
  obtain ⟨rfl, -, -⟩ := hv
  refine RW.widen (k := 18) (n := 108) (Nat.le_of_ble_eq_true rfl) (Nat.le_of_ble_eq_true rfl) ?_
  show RW G _ _ _ _ 8 [some (.ref (ad V 0)), some (.ref (ad V 47)), none, none, none] [.int (nI (hR h)), .int (nI (hR h))] _ _ _
  refine r_icmp_ne (tgt := 15) dL_areAlike_8 (by decide) (fun c => absurd rfl c) (fun c => ?_)
  refine rIconst (v := (nI (1))) dL_areAlike_11 (by decide) ?_
  refine rGoto (tgt := 16) dL_areAlike_12 (by decide) ?_
  refine rIstore_n dL_areAlike_16 (by decide) ?_
  show RW G _ _ _ _ 17 [some (.ref (ad V 0)), some (.ref (ad V 47)), some (.int (nI 1)), none, none] [] _ _ _
  refine rIconst (v := (nI (0))) dL_areAlike_17 (by decide) ?_
  refine rIstore_n dL_areAlike_18 (by decide) ?_
  show RW G _ _ _ _ 19 [some (.ref (ad V 0)), some (.ref (ad V 47)), some (.int (nI 1)), some (.int (nI 0)), none] [] _ _ _
  refine loopG (σ := sgT) (18) (108) 378 2268 (4) (fun i _ => [some (.ref (ad V 0)), some (.ref (ad V 47)), some (.int (nI 1)), some (.int (nI i)), none]) (fun _ x => x) (fun i x => W2 x h h) _ w2 (fun i x hi hinv ih => ?_)
  show RW G _ _ _ _ 19 [some (.ref (ad V 0)), some (.ref (ad V 47)), some (.int (nI 1)), some (.int (nI i)), none] [] _ _ _
  refine rIload_n dL_areAlike_19 rfl ?_
  refine rIconst (v := (nI (4))) dL_areAlike_20 (by decide) ?_
  refine r_icmp_ge (tgt := 168) dL_areAlike_21 (by decide) (fun c_21 => ?_) (fun c_21 => ?_)
  · have c_21 : 4 ≤ i := (nI_leI (by omega) (by omega)).mp c_21
    refine rIload_n dL_areAlike_168 rfl ?_
    exact sIret dL_areAlike_169 rfl rfl (by show 18 + 378 * i ≤ 1530; omega) (by show 108 + 2268 * i ≤ 9180; omega) ⟨_, rfl, rfl, hinv⟩
  · have c_21 : ¬ (4 ≤ i) := fun h => c_21 ((nI_leI (by omega) (by omega)).mpr h)
    refine rIload_n dL_areAlike_24 rfl ?_
    refine r_if_eq (tgt := 168) dL_areAlike_25 (by decide) (fun c => absurd c (by decide)) (fun c => ?_)
    refine rAload_n dL_areAlike_28 rfl ?_
    refine rIload_n dL_areAlike_29 rfl ?_
    refine sCallVi (M' := mX6_gold) (rm' := rmD 9 9 54) (As := [.int (nI i)]) (rest := []) dL_areAlike_30 rfl mk_X6_gold mi_X6_gold ll_L_68 ⟨(Nat.le_of_ble_eq_true rfl), (Nat.le_of_ble_eq_true rfl)⟩ ho.1 (by decide) rfl rfl (by show 18 + 378 * i + 9 ≤ 1530; omega) (by show 108 + 2268 * i + 54 ≤ 9180; omega) (q_gold ho hinv.1  hfl (by omega)) rfl (Nat.le_of_ble_eq_true rfl) (fun v s3 hv => ?_)
    have w3 := w2_0 hinv hv
    obtain ⟨rfl, -, -⟩ := hv
    refine RW.widen (k := 18 + 378 * i + 9) (n := 108 + 2268 * i + 54) (by show 18 + 378 * i + 9 ≤ _; omega) (by show 108 + 2268 * i + 54 ≤ _; omega) ?_
    show RW G _ _ _ _ 33 [some (.ref (ad V 0)), some (.ref (ad V 47)), some (.int (nI 1)), some (.int (nI i)), none] [.int (nI (pGold (hY h i)))] _ _ _
    refine rAload_n dL_areAlike_33 rfl ?_
    refine rIload_n dL_areAlike_34 rfl ?_
    refine sCallVi (M' := mX6_gold) (rm' := rmD 9 9 54) (As := [.int (nI i)]) (rest := [.int (nI (pGold (hY h i)))]) dL_areAlike_35 rfl mk_X6_gold mi_X6_gold ll_L_68 ⟨(Nat.le_of_ble_eq_true rfl), (Nat.le_of_ble_eq_true rfl)⟩ hq.1 (by decide) rfl rfl (by show 18 + 378 * i + 9 + 9 ≤ 1530; omega) (by show 108 + 2268 * i + 54 + 54 ≤ 9180; omega) (q_gold hq w3.2  hfl (by omega)) rfl (Nat.le_of_ble_eq_true rfl) (fun v s4 hv => ?_)
    have w4 := w2_1 w3 hv
    obtain ⟨rfl, -, -⟩ := hv
    refine RW.widen (k := 18 + 378 * i + 18) (n := 108 + 2268 * i + 108) (by show 18 + 378 * i + 9 + 9 ≤ _; omega) (by show 108 + 2268 * i + 54 + 54 ≤ _; omega) ?_
    show RW G _ _ _ _ 38 [some (.ref (ad V 0)), some (.ref (ad V 47)), some (.int (nI 1)), some (.int (nI i)), none] [.int (nI (pGold (hY h i))), .int (nI (pGold (hY h i)))] _ _ _
    refine r_icmp_ne (tgt := 71) dL_areAlike_38 (by decide) (fun c => absurd rfl c) (fun c => ?_)
    refine rAload_n dL_areAlike_41 rfl ?_
    refine rIload_n dL_areAlike_42 rfl ?_
    refine sCallVi (M' := mX6_health) (rm' := rmD 9 9 54) (As := [.int (nI i)]) (rest := []) dL_areAlike_43 rfl mk_X6_health mi_X6_health ll_L_71 ⟨(Nat.le_of_ble_eq_true rfl), (Nat.le_of_ble_eq_true rfl)⟩ ho.1 (by decide) rfl rfl (by show 18 + 378 * i + 18 + 9 ≤ 1530; omega) (by show 108 + 2268 * i + 108 + 54 ≤ 9180; omega) (q_health ho w4.1  hfl (by omega)) rfl (Nat.le_of_ble_eq_true rfl) (fun v s5 hv => ?_)
    have w5 := w2_0 w4 hv
    obtain ⟨rfl, -, -⟩ := hv
    refine RW.widen (k := 18 + 378 * i + 27) (n := 108 + 2268 * i + 162) (by show 18 + 378 * i + 18 + 9 ≤ _; omega) (by show 108 + 2268 * i + 108 + 54 ≤ _; omega) ?_
    show RW G _ _ _ _ 46 [some (.ref (ad V 0)), some (.ref (ad V 47)), some (.int (nI 1)), some (.int (nI i)), none] [.int (nI (pHth (hY h i)))] _ _ _
    refine rAload_n dL_areAlike_46 rfl ?_
    refine rIload_n dL_areAlike_47 rfl ?_
    refine sCallVi (M' := mX6_health) (rm' := rmD 9 9 54) (As := [.int (nI i)]) (rest := [.int (nI (pHth (hY h i)))]) dL_areAlike_48 rfl mk_X6_health mi_X6_health ll_L_71 ⟨(Nat.le_of_ble_eq_true rfl), (Nat.le_of_ble_eq_true rfl)⟩ hq.1 (by decide) rfl rfl (by show 18 + 378 * i + 27 + 9 ≤ 1530; omega) (by show 108 + 2268 * i + 162 + 54 ≤ 9180; omega) (q_health hq w5.2  hfl (by omega)) rfl (Nat.le_of_ble_eq_true rfl) (fun v s6 hv => ?_)
    have w6 := w2_1 w5 hv
    obtain ⟨rfl, -, -⟩ := hv
    refine RW.widen (k := 18 + 378 * i + 36) (n := 108 + 2268 * i + 216) (by show 18 + 378 * i + 27 + 9 ≤ _; omega) (by show 108 + 2268 * i + 162 + 54 ≤ _; omega) ?_
    show RW G _ _ _ _ 51 [some (.ref (ad V 0)), some (.ref (ad V 47)), some (.int (nI 1)), some (.int (nI i)), none] [.int (nI (pHth (hY h i))), .int (nI (pHth (hY h i)))] _ _ _
    refine r_icmp_ne (tgt := 71) dL_areAlike_51 (by decide) (fun c => absurd rfl c) (fun c => ?_)
    refine rAload_n dL_areAlike_54 rfl ?_
    refine rIload_n dL_areAlike_55 rfl ?_
    refine sCallVi (M' := mX6_streak) (rm' := rmD 9 9 54) (As := [.int (nI i)]) (rest := []) dL_areAlike_56 rfl mk_X6_streak mi_X6_streak ll_L_74 ⟨(Nat.le_of_ble_eq_true rfl), (Nat.le_of_ble_eq_true rfl)⟩ ho.1 (by decide) rfl rfl (by show 18 + 378 * i + 36 + 9 ≤ 1530; omega) (by show 108 + 2268 * i + 216 + 54 ≤ 9180; omega) (q_streak ho w6.1  hfl (by omega)) rfl (Nat.le_of_ble_eq_true rfl) (fun v s7 hv => ?_)
    have w7 := w2_0 w6 hv
    obtain ⟨rfl, -, -⟩ := hv
    refine RW.widen (k := 18 + 378 * i + 45) (n := 108 + 2268 * i + 270) (by show 18 + 378 * i + 36 + 9 ≤ _; omega) (by show 108 + 2268 * i + 216 + 54 ≤ _; omega) ?_
    show RW G _ _ _ _ 59 [some (.ref (ad V 0)), some (.ref (ad V 47)), some (.int (nI 1)), some (.int (nI i)), none] [.int (pStk (hY h i))] _ _ _
    refine rAload_n dL_areAlike_59 rfl ?_
    refine rIload_n dL_areAlike_60 rfl ?_
    refine sCallVi (M' := mX6_streak) (rm' := rmD 9 9 54) (As := [.int (nI i)]) (rest := [.int (pStk (hY h i))]) dL_areAlike_61 rfl mk_X6_streak mi_X6_streak ll_L_74 ⟨(Nat.le_of_ble_eq_true rfl), (Nat.le_of_ble_eq_true rfl)⟩ hq.1 (by decide) rfl rfl (by show 18 + 378 * i + 45 + 9 ≤ 1530; omega) (by show 108 + 2268 * i + 270 + 54 ≤ 9180; omega) (q_streak hq w7.2  hfl (by omega)) rfl (Nat.le_of_ble_eq_true rfl) (fun v s8 hv => ?_)
    have w8 := w2_1 w7 hv
    obtain ⟨rfl, -, -⟩ := hv
    refine RW.widen (k := 18 + 378 * i + 54) (n := 108 + 2268 * i + 324) (by show 18 + 378 * i + 45 + 9 ≤ _; omega) (by show 108 + 2268 * i + 270 + 54 ≤ _; omega) ?_
    show RW G _ _ _ _ 64 [some (.ref (ad V 0)), some (.ref (ad V 47)), some (.int (nI 1)), some (.int (nI i)), none] [.int (pStk (hY h i)), .int (pStk (hY h i))] _ _ _
    refine r_icmp_ne (tgt := 71) dL_areAlike_64 (by decide) (fun c => absurd rfl c) (fun c => ?_)
    refine rIconst (v := (nI (1))) dL_areAlike_67 (by decide) ?_
    refine rGoto (tgt := 72) dL_areAlike_68 (by decide) ?_
    refine rIstore_n dL_areAlike_72 (by decide) ?_
    show RW G _ _ _ _ 73 [some (.ref (ad V 0)), some (.ref (ad V 47)), some (.int (nI 1)), some (.int (nI i)), none] [] _ _ _
    refine rIconst (v := (nI (0))) dL_areAlike_73 (by decide) ?_
    refine rIstore dL_areAlike_74 (by decide) ?_
    show RW G _ _ _ _ 76 [some (.ref (ad V 0)), some (.ref (ad V 47)), some (.int (nI 1)), some (.int (nI i)), some (.int (nI 0))] [] _ _ _
    refine loopG (σ := sgT) (18 + 378 * i + 54) (108 + 2268 * i + 324) 54 324 (6) (fun k _ => [some (.ref (ad V 0)), some (.ref (ad V 47)), some (.int (nI 1)), some (.int (nI i)), some (.int (nI k))]) (fun _ x => x) (fun k y => W2 y h h) _ w8 (fun k y hk hinv2 ih2 => ?_)
    show RW G _ _ _ _ 76 [some (.ref (ad V 0)), some (.ref (ad V 47)), some (.int (nI 1)), some (.int (nI i)), some (.int (nI k))] [] _ _ _
    refine rIload dL_areAlike_76 rfl ?_
    refine rBipush (v := (nI (6))) dL_areAlike_78 (by decide) ?_
    refine r_icmp_ge (tgt := 162) dL_areAlike_80 (by decide) (fun c_80 => ?_) (fun c_80 => ?_)
    · have c_80 : 6 ≤ k := (nI_leI (by omega) (by omega)).mp c_80
      refine rIinc (v := (nI (i + 1))) dL_areAlike_162 rfl (by first | exact nI_add _ _ | rfl) (by decide) ?_
      show RW G _ _ _ _ 165 [some (.ref (ad V 0)), some (.ref (ad V 47)), some (.int (nI 1)), some (.int (nI (i + 1))), some (.int (nI k))] [] _ _ _
      refine rGoto (tgt := 19) dL_areAlike_165 (by decide) ?_
      refine rForget (L := [some (.ref (ad V 0)), some (.ref (ad V 47)), some (.int (nI 1)), some (.int (nI (i + 1))), some (.int (nI k))]) (L' := [some (.ref (ad V 0)), some (.ref (ad V 47)), some (.int (nI 1)), some (.int (nI (i + 1))), none]) (by exact ⟨rfl, ⟨rfl, ⟨rfl, ⟨rfl, trivial⟩⟩⟩⟩) ?_
      exact RW.widen (k := 18 + 378 * (i + 1)) (n := 108 + 2268 * (i + 1)) (by omega) (by omega) (ih (by omega) _ hinv2)
    · have c_80 : ¬ (6 ≤ k) := fun h => c_80 ((nI_leI (by omega) (by omega)).mpr h)
      refine rIload_n dL_areAlike_83 rfl ?_
      refine r_if_eq (tgt := 162) dL_areAlike_84 (by decide) (fun c => absurd c (by decide)) (fun c => ?_)
      refine rAload_n dL_areAlike_87 rfl ?_
      refine rIload_n dL_areAlike_88 rfl ?_
      refine rIload dL_areAlike_89 rfl ?_
      refine sCallVi (M' := mX6_benchAt) (rm' := rmD 9 9 54) (As := [.int (nI i), .int (nI k)]) (rest := []) dL_areAlike_91 rfl mk_X6_benchAt mi_X6_benchAt ll_L_50 ⟨(Nat.le_of_ble_eq_true rfl), (Nat.le_of_ble_eq_true rfl)⟩ ho.1 (by decide) rfl rfl (by show 18 + 378 * i + 54 + 54 * k + 9 ≤ 1530; omega) (by show 108 + 2268 * i + 324 + 324 * k + 54 ≤ 9180; omega) (q_benchAt ho hinv2.1 hg hfl (by omega) (by omega)) rfl (Nat.le_of_ble_eq_true rfl) (fun v s9 hv => ?_)
      have w9 := w2_0 hinv2 hv
      obtain ⟨rfl, -, -⟩ := hv
      refine RW.widen (k := 18 + 378 * i + 54 + 54 * k + 9) (n := 108 + 2268 * i + 324 + 324 * k + 54) (by show 18 + 378 * i + 54 + 54 * k + 9 ≤ _; omega) (by show 108 + 2268 * i + 324 + 324 * k + 54 ≤ _; omega) ?_
      show RW G _ _ _ _ 94 [some (.ref (ad V 0)), some (.ref (ad V 47)), some (.int (nI 1)), some (.int (nI i)), some (.int (nI k))] [.int (rowU (pBen (hY h i)) k)] _ _ _
      refine rAload_n dL_areAlike_94 rfl ?_
      refine rIload_n dL_areAlike_95 rfl ?_
      refine rIload dL_areAlike_96 rfl ?_
      refine sCallVi (M' := mX6_benchAt) (rm' := rmD 9 9 54) (As := [.int (nI i), .int (nI k)]) (rest := [.int (rowU (pBen (hY h i)) k)]) dL_areAlike_98 rfl mk_X6_benchAt mi_X6_benchAt ll_L_50 ⟨(Nat.le_of_ble_eq_true rfl), (Nat.le_of_ble_eq_true rfl)⟩ hq.1 (by decide) rfl rfl (by show 18 + 378 * i + 54 + 54 * k + 9 + 9 ≤ 1530; omega) (by show 108 + 2268 * i + 324 + 324 * k + 54 + 54 ≤ 9180; omega) (q_benchAt hq w9.2 hg hfl (by omega) (by omega)) rfl (Nat.le_of_ble_eq_true rfl) (fun v s10 hv => ?_)
      have w10 := w2_1 w9 hv
      obtain ⟨rfl, -, -⟩ := hv
      refine RW.widen (k := 18 + 378 * i + 54 + 54 * k + 18) (n := 108 + 2268 * i + 324 + 324 * k + 108) (by show 18 + 378 * i + 54 + 54 * k + 9 + 9 ≤ _; omega) (by show 108 + 2268 * i + 324 + 324 * k + 54 + 54 ≤ _; omega) ?_
      show RW G _ _ _ _ 101 [some (.ref (ad V 0)), some (.ref (ad V 47)), some (.int (nI 1)), some (.int (nI i)), some (.int (nI k))] [.int (rowU (pBen (hY h i)) k), .int (rowU (pBen (hY h i)) k)] _ _ _
      refine r_icmp_ne (tgt := 154) dL_areAlike_101 (by decide) (fun c => absurd rfl c) (fun c => ?_)
      refine rIload dL_areAlike_104 rfl ?_
      refine rIconst (v := (nI (4))) dL_areAlike_106 (by decide) ?_
      refine r_icmp_gt (tgt := 127) dL_areAlike_107 (by decide) (fun c_107 => ?_) (fun c_107 => ?_)
      · have c_107 : 4 < k := (nI_ltI (by omega) (by omega)).mp c_107
        refine rIload dL_areAlike_127 rfl ?_
        refine rIconst (v := (nI (2))) dL_areAlike_129 (by decide) ?_
        refine r_icmp_gt (tgt := 150) dL_areAlike_130 (by decide) (fun c_130 => ?_) (fun c_130 => ?_)
        · have c_130 : 2 < k := (nI_ltI (by omega) (by omega)).mp c_130
          refine rIconst (v := (nI (1))) dL_areAlike_150 (by decide) ?_
          refine rGoto (tgt := 155) dL_areAlike_151 (by decide) ?_
          refine rIstore_n dL_areAlike_155 (by decide) ?_
          show RW G _ _ _ _ 156 [some (.ref (ad V 0)), some (.ref (ad V 47)), some (.int (nI 1)), some (.int (nI i)), some (.int (nI k))] [] _ _ _
          refine rIinc (v := (nI (k + 1))) dL_areAlike_156 rfl (by first | exact nI_add _ _ | rfl) (by decide) ?_
          show RW G _ _ _ _ 159 [some (.ref (ad V 0)), some (.ref (ad V 47)), some (.int (nI 1)), some (.int (nI i)), some (.int (nI (k + 1)))] [] _ _ _
          refine rGoto (tgt := 76) dL_areAlike_159 (by decide) ?_
          exact RW.widen (k := 18 + 378 * i + 54 + 54 * (k + 1)) (n := 108 + 2268 * i + 324 + 324 * (k + 1)) (by omega) (by omega) (ih2 (by omega) _ w10)
        · have c_130 : ¬ (2 < k) := fun h => c_130 ((nI_ltI (by omega) (by omega)).mpr h)
          refine rAload_n dL_areAlike_133 rfl ?_
          refine rIload_n dL_areAlike_134 rfl ?_
          refine rIload dL_areAlike_135 rfl ?_
          refine sCallVi (M' := mX6_shopAt) (rm' := rmD 9 9 54) (As := [.int (nI i), .int (nI k)]) (rest := []) dL_areAlike_137 rfl mk_X6_shopAt mi_X6_shopAt ll_L_77 ⟨(Nat.le_of_ble_eq_true rfl), (Nat.le_of_ble_eq_true rfl)⟩ ho.1 (by decide) rfl rfl (by show 18 + 378 * i + 54 + 54 * k + 18 + 9 ≤ 1530; omega) (by show 108 + 2268 * i + 324 + 324 * k + 108 + 54 ≤ 9180; omega) (q_shopAt ho w10.1  hfl (by omega) (by omega)) rfl (Nat.le_of_ble_eq_true rfl) (fun v s11 hv => ?_)
          have w11 := w2_0 w10 hv
          obtain ⟨rfl, -, -⟩ := hv
          refine RW.widen (k := 18 + 378 * i + 54 + 54 * k + 27) (n := 108 + 2268 * i + 324 + 324 * k + 162) (by show 18 + 378 * i + 54 + 54 * k + 18 + 9 ≤ _; omega) (by show 108 + 2268 * i + 324 + 324 * k + 108 + 54 ≤ _; omega) ?_
          show RW G _ _ _ _ 140 [some (.ref (ad V 0)), some (.ref (ad V 47)), some (.int (nI 1)), some (.int (nI i)), some (.int (nI k))] [.int (shI (pShp (hY h i) k))] _ _ _
          refine rAload_n dL_areAlike_140 rfl ?_
          refine rIload_n dL_areAlike_141 rfl ?_
          refine rIload dL_areAlike_142 rfl ?_
          refine sCallVi (M' := mX6_shopAt) (rm' := rmD 9 9 54) (As := [.int (nI i), .int (nI k)]) (rest := [.int (shI (pShp (hY h i) k))]) dL_areAlike_144 rfl mk_X6_shopAt mi_X6_shopAt ll_L_77 ⟨(Nat.le_of_ble_eq_true rfl), (Nat.le_of_ble_eq_true rfl)⟩ hq.1 (by decide) rfl rfl (by show 18 + 378 * i + 54 + 54 * k + 27 + 9 ≤ 1530; omega) (by show 108 + 2268 * i + 324 + 324 * k + 162 + 54 ≤ 9180; omega) (q_shopAt hq w11.2  hfl (by omega) (by omega)) rfl (Nat.le_of_ble_eq_true rfl) (fun v s12 hv => ?_)
          have w12 := w2_1 w11 hv
          obtain ⟨rfl, -, -⟩ := hv
          refine RW.widen (k := 18 + 378 * i + 54 + 54 * k + 36) (n := 108 + 2268 * i + 324 + 324 * k + 216) (by show 18 + 378 * i + 54 + 54 * k + 27 + 9 ≤ _; omega) (by show 108 + 2268 * i + 324 + 324 * k + 162 + 54 ≤ _; omega) ?_
          show RW G _ _ _ _ 147 [some (.ref (ad V 0)), some (.ref (ad V 47)), some (.int (nI 1)), some (.int (nI i)), some (.int (nI k))] [.int (shI (pShp (hY h i) k)), .int (shI (pShp (hY h i) k))] _ _ _
          refine r_icmp_ne (tgt := 154) dL_areAlike_147 (by decide) (fun c => absurd rfl c) (fun c => ?_)
          refine rIconst (v := (nI (1))) dL_areAlike_150 (by decide) ?_
          refine rGoto (tgt := 155) dL_areAlike_151 (by decide) ?_
          refine rIstore_n dL_areAlike_155 (by decide) ?_
          show RW G _ _ _ _ 156 [some (.ref (ad V 0)), some (.ref (ad V 47)), some (.int (nI 1)), some (.int (nI i)), some (.int (nI k))] [] _ _ _
          refine rIinc (v := (nI (k + 1))) dL_areAlike_156 rfl (by first | exact nI_add _ _ | rfl) (by decide) ?_
          show RW G _ _ _ _ 159 [some (.ref (ad V 0)), some (.ref (ad V 47)), some (.int (nI 1)), some (.int (nI i)), some (.int (nI (k + 1)))] [] _ _ _
          refine rGoto (tgt := 76) dL_areAlike_159 (by decide) ?_
          exact RW.widen (k := 18 + 378 * i + 54 + 54 * (k + 1)) (n := 108 + 2268 * i + 324 + 324 * (k + 1)) (by omega) (by omega) (ih2 (by omega) _ w12)
      · have c_107 : ¬ (4 < k) := fun h => c_107 ((nI_ltI (by omega) (by omega)).mpr h)
        refine rAload_n dL_areAlike_110 rfl ?_
        refine rIload_n dL_areAlike_111 rfl ?_
        refine rIload dL_areAlike_112 rfl ?_
        refine sCallVi (M' := mX6_boardAt) (rm' := rmD 9 9 54) (As := [.int (nI i), .int (nI k)]) (rest := []) dL_areAlike_114 rfl mk_X6_boardAt mi_X6_boardAt ll_L_53 ⟨(Nat.le_of_ble_eq_true rfl), (Nat.le_of_ble_eq_true rfl)⟩ ho.1 (by decide) rfl rfl (by show 18 + 378 * i + 54 + 54 * k + 18 + 9 ≤ 1530; omega) (by show 108 + 2268 * i + 324 + 324 * k + 108 + 54 ≤ 9180; omega) (q_boardAt ho w10.1 hg hfl (by omega) (by omega)) rfl (Nat.le_of_ble_eq_true rfl) (fun v s11 hv => ?_)
        have w11 := w2_0 w10 hv
        obtain ⟨rfl, -, -⟩ := hv
        refine RW.widen (k := 18 + 378 * i + 54 + 54 * k + 27) (n := 108 + 2268 * i + 324 + 324 * k + 162) (by show 18 + 378 * i + 54 + 54 * k + 18 + 9 ≤ _; omega) (by show 108 + 2268 * i + 324 + 324 * k + 108 + 54 ≤ _; omega) ?_
        show RW G _ _ _ _ 117 [some (.ref (ad V 0)), some (.ref (ad V 47)), some (.int (nI 1)), some (.int (nI i)), some (.int (nI k))] [.int (rowU (pBrd (hY h i)) k)] _ _ _
        refine rAload_n dL_areAlike_117 rfl ?_
        refine rIload_n dL_areAlike_118 rfl ?_
        refine rIload dL_areAlike_119 rfl ?_
        refine sCallVi (M' := mX6_boardAt) (rm' := rmD 9 9 54) (As := [.int (nI i), .int (nI k)]) (rest := [.int (rowU (pBrd (hY h i)) k)]) dL_areAlike_121 rfl mk_X6_boardAt mi_X6_boardAt ll_L_53 ⟨(Nat.le_of_ble_eq_true rfl), (Nat.le_of_ble_eq_true rfl)⟩ hq.1 (by decide) rfl rfl (by show 18 + 378 * i + 54 + 54 * k + 27 + 9 ≤ 1530; omega) (by show 108 + 2268 * i + 324 + 324 * k + 162 + 54 ≤ 9180; omega) (q_boardAt hq w11.2 hg hfl (by omega) (by omega)) rfl (Nat.le_of_ble_eq_true rfl) (fun v s12 hv => ?_)
        have w12 := w2_1 w11 hv
        obtain ⟨rfl, -, -⟩ := hv
        refine RW.widen (k := 18 + 378 * i + 54 + 54 * k + 36) (n := 108 + 2268 * i + 324 + 324 * k + 216) (by show 18 + 378 * i + 54 + 54 * k + 27 + 9 ≤ _; omega) (by show 108 + 2268 * i + 324 + 324 * k + 162 + 54 ≤ _; omega) ?_
        show RW G _ _ _ _ 124 [some (.ref (ad V 0)), some (.ref (ad V 47)), some (.int (nI 1)), some (.int (nI i)), some (.int (nI k))] [.int (rowU (pBrd (hY h i)) k), .int (rowU (pBrd (hY h i)) k)] _ _ _
        refine r_icmp_ne (tgt := 154) dL_areAlike_124 (by decide) (fun c => absurd rfl c) (fun c => ?_)
        refine rIload dL_areAlike_127 rfl ?_
        refine rIconst (v := (nI (2))) dL_areAlike_129 (by decide) ?_
        refine r_icmp_gt (tgt := 150) dL_areAlike_130 (by decide) (fun c_130 => ?_) (fun c_130 => ?_)
        · have c_130 : 2 < k := (nI_ltI (by omega) (by omega)).mp c_130
          refine rIconst (v := (nI (1))) dL_areAlike_150 (by decide) ?_
          refine rGoto (tgt := 155) dL_areAlike_151 (by decide) ?_
          refine rIstore_n dL_areAlike_155 (by decide) ?_
          show RW G _ _ _ _ 156 [some (.ref (ad V 0)), some (.ref (ad V 47)), some (.int (nI 1)), some (.int (nI i)), some (.int (nI k))] [] _ _ _
          refine rIinc (v := (nI (k + 1))) dL_areAlike_156 rfl (by first | exact nI_add _ _ | rfl) (by decide) ?_
          show RW G _ _ _ _ 159 [some (.ref (ad V 0)), some (.ref (ad V 47)), some (.int (nI 1)), some (.int (nI i)), some (.int (nI (k + 1)))] [] _ _ _
          refine rGoto (tgt := 76) dL_areAlike_159 (by decide) ?_
          exact RW.widen (k := 18 + 378 * i + 54 + 54 * (k + 1)) (n := 108 + 2268 * i + 324 + 324 * (k + 1)) (by omega) (by omega) (ih2 (by omega) _ w12)
        · have c_130 : ¬ (2 < k) := fun h => c_130 ((nI_ltI (by omega) (by omega)).mpr h)
          refine rAload_n dL_areAlike_133 rfl ?_
          refine rIload_n dL_areAlike_134 rfl ?_
          refine rIload dL_areAlike_135 rfl ?_
          refine sCallVi (M' := mX6_shopAt) (rm' := rmD 9 9 54) (As := [.int (nI i), .int (nI k)]) (rest := []) dL_areAlike_137 rfl mk_X6_shopAt mi_X6_shopAt ll_L_77 ⟨(Nat.le_of_ble_eq_true rfl), (Nat.le_of_ble_eq_true rfl)⟩ ho.1 (by decide) rfl rfl (by show 18 + 378 * i + 54 + 54 * k + 36 + 9 ≤ 1530; omega) (by show 108 + 2268 * i + 324 + 324 * k + 216 + 54 ≤ 9180; omega) (q_shopAt ho w12.1  hfl (by omega) (by omega)) rfl (Nat.le_of_ble_eq_true rfl) (fun v s13 hv => ?_)
          have w13 := w2_0 w12 hv
          obtain ⟨rfl, -, -⟩ := hv
          refine RW.widen (k := 18 + 378 * i + 54 + 54 * k + 45) (n := 108 + 2268 * i + 324 + 324 * k + 270) (by show 18 + 378 * i + 54 + 54 * k + 36 + 9 ≤ _; omega) (by show 108 + 2268 * i + 324 + 324 * k + 216 + 54 ≤ _; omega) ?_
          show RW G _ _ _ _ 140 [some (.ref (ad V 0)), some (.ref (ad V 47)), some (.int (nI 1)), some (.int (nI i)), some (.int (nI k))] [.int (shI (pShp (hY h i) k))] _ _ _
          refine rAload_n dL_areAlike_140 rfl ?_
          refine rIload_n dL_areAlike_141 rfl ?_
          refine rIload dL_areAlike_142 rfl ?_
          refine sCallVi (M' := mX6_shopAt) (rm' := rmD 9 9 54) (As := [.int (nI i), .int (nI k)]) (rest := [.int (shI (pShp (hY h i) k))]) dL_areAlike_144 rfl mk_X6_shopAt mi_X6_shopAt ll_L_77 ⟨(Nat.le_of_ble_eq_true rfl), (Nat.le_of_ble_eq_true rfl)⟩ hq.1 (by decide) rfl rfl (by show 18 + 378 * i + 54 + 54 * k + 45 + 9 ≤ 1530; omega) (by show 108 + 2268 * i + 324 + 324 * k + 270 + 54 ≤ 9180; omega) (q_shopAt hq w13.2  hfl (by omega) (by omega)) rfl (Nat.le_of_ble_eq_true rfl) (fun v s14 hv => ?_)
          have w14 := w2_1 w13 hv
          obtain ⟨rfl, -, -⟩ := hv
          refine RW.widen (k := 18 + 378 * i + 54 + 54 * k + 54) (n := 108 + 2268 * i + 324 + 324 * k + 324) (by show 18 + 378 * i + 54 + 54 * k + 45 + 9 ≤ _; omega) (by show 108 + 2268 * i + 324 + 324 * k + 270 + 54 ≤ _; omega) ?_
          show RW G _ _ _ _ 147 [some (.ref (ad V 0)), some (.ref (ad V 47)), some (.int (nI 1)), some (.int (nI i)), some (.int (nI k))] [.int (shI (pShp (hY h i) k)), .int (shI (pShp (hY h i) k))] _ _ _
          refine r_icmp_ne (tgt := 154) dL_areAlike_147 (by decide) (fun c => absurd rfl c) (fun c => ?_)
          refine rIconst (v := (nI (1))) dL_areAlike_150 (by decide) ?_
          refine rGoto (tgt := 155) dL_areAlike_151 (by decide) ?_
          refine rIstore_n dL_areAlike_155 (by decide) ?_
          show RW G _ _ _ _ 156 [some (.ref (ad V 0)), some (.ref (ad V 47)), some (.int (nI 1)), some (.int (nI i)), some (.int (nI k))] [] _ _ _
          refine rIinc (v := (nI (k + 1))) dL_areAlike_156 rfl (by first | exact nI_add _ _ | rfl) (by decide) ?_
          show RW G _ _ _ _ 159 [some (.ref (ad V 0)), some (.ref (ad V 47)), some (.int (nI 1)), some (.int (nI i)), some (.int (nI (k + 1)))] [] _ _ _
          refine rGoto (tgt := 76) dL_areAlike_159 (by decide) ?_
          exact RW.widen (k := 18 + 378 * i + 54 + 54 * (k + 1)) (n := 108 + 2268 * i + 324 + 324 * (k + 1)) (by omega) (by omega) (ih2 (by omega) _ w14)
set_option maxRecDepth 100000 in
set_option maxHeartbeats 4000000 in
theorem c_L_isHallSo {G : gG} {V : wV} {lo : Nat → Int64} {o : Nat} (ho : hallAt V o) {s : sgT} {h : hT} (hh : hallIs s o h) (hg : good h) (hfl : (gl G).stackTraces = false) {p : Nat} (hp : p < 4) : CSi G V mL_isHallSo cL_isHallSo (rmD 11 660 3960) [.ref (ad V o), .int (nI p)] s lo (fun v s' => aPost o s h (nI 1) v s') (fun _ => False) := by
  refine CSi.of (L := [some (.ref (ad V o)), some (.int (nI p)), none, none, none, none, none]) rfl (by decide +kernel) rfl (Nat.le_of_ble_eq_true rfl) rfl ?_
  obtain ⟨o1, o2, o3, o4, o5, o6, o7, o8, o9⟩ := hg.1.2.2.1 p hp
  have hd : (pBrd (hY h p)).length ≤ 5 := (plOk_len hg.1 hp).2.1
  refine rAload_n dL_isHallSo_0 rfl ?_
  refine rIload_n dL_isHallSo_1 rfl ?_
  refine sCallSi (M' := mL_board) (rm' := rmD 10 45 270) (As := [.ref (ad V o), .int (nI p)]) (rest := []) dL_isHallSo_2 rfl mk_L_board ms_L_board ll_L_80 ⟨(Nat.le_of_ble_eq_true rfl), (Nat.le_of_ble_eq_true rfl)⟩ rfl (Nat.le_of_ble_eq_true rfl) (Nat.le_of_ble_eq_true rfl) (c_L_board ho hh hg hfl hp) rfl (Nat.le_of_ble_eq_true rfl) (fun v s1 hv => ?_)
  obtain ⟨rfl, p1, f1⟩ := hv
  have g1 := hFr.trans hFr.refl f1
  refine RW.widen (k := 45) (n := 270) (Nat.le_of_ble_eq_true rfl) (Nat.le_of_ble_eq_true rfl) ?_
  show RW G _ _ _ _ 5 [some (.ref (ad V o)), some (.int (nI p)), none, none, none, none, none] [.int (nI ((pBrd (hY h p)).length))] _ _ _
  refine rIstore_n dL_isHallSo_5 (by decide) ?_
  show RW G _ _ _ _ 6 [some (.ref (ad V o)), some (.int (nI p)), some (.int (nI ((pBrd (hY h p)).length))), none, none, none, none] [] _ _ _
  refine rAload_n dL_isHallSo_6 rfl ?_
  refine rIload_n dL_isHallSo_7 rfl ?_
  refine sCallSi (M' := mL_units) (rm' := rmD 10 108 648) (As := [.ref (ad V o), .int (nI p)]) (rest := []) dL_isHallSo_8 rfl mk_L_units ms_L_units ll_L_84 ⟨(Nat.le_of_ble_eq_true rfl), (Nat.le_of_ble_eq_true rfl)⟩ rfl (Nat.le_of_ble_eq_true rfl) (Nat.le_of_ble_eq_true rfl) (c_L_units ho p1 hg hfl hp) rfl (Nat.le_of_ble_eq_true rfl) (fun v s2 hv => ?_)
  obtain ⟨rfl, p2, f2⟩ := hv
  have g2 := hFr.trans g1 f2
  refine RW.widen (k := 153) (n := 918) (Nat.le_of_ble_eq_true rfl) (Nat.le_of_ble_eq_true rfl) ?_
  show RW G _ _ _ _ 11 [some (.ref (ad V o)), some (.int (nI p)), some (.int (nI ((pBrd (hY h p)).length))), none, none, none, none] [.int (nI ((pBrd (hY h p)).length + (pBen (hY h p)).length))] _ _ _
  refine rIload_n dL_isHallSo_11 rfl ?_
  refine rAload_n dL_isHallSo_12 rfl ?_
  refine rIload_n dL_isHallSo_13 rfl ?_
  refine sCallSi (M' := mL_bench) (rm' := rmD 10 54 324) (As := [.ref (ad V o), .int (nI p)]) (rest := [.int (nI ((pBrd (hY h p)).length)), .int (nI ((pBrd (hY h p)).length + (pBen (hY h p)).length))]) dL_isHallSo_14 rfl mk_L_bench ms_L_bench ll_L_87 ⟨(Nat.le_of_ble_eq_true rfl), (Nat.le_of_ble_eq_true rfl)⟩ rfl (Nat.le_of_ble_eq_true rfl) (Nat.le_of_ble_eq_true rfl) (c_L_bench ho p2 hg hfl hp) rfl (Nat.le_of_ble_eq_true rfl) (fun v s3 hv => ?_)
  obtain ⟨rfl, p3, f3⟩ := hv
  have g3 := hFr.trans g2 f3
  refine RW.widen (k := 207) (n := 1242) (Nat.le_of_ble_eq_true rfl) (Nat.le_of_ble_eq_true rfl) ?_
  show RW G _ _ _ _ 17 [some (.ref (ad V o)), some (.int (nI p)), some (.int (nI ((pBrd (hY h p)).length))), none, none, none, none] [.int (nI ((pBen (hY h p)).length)), .int (nI ((pBrd (hY h p)).length)), .int (nI ((pBrd (hY h p)).length + (pBen (hY h p)).length))] _ _ _
  refine nIadd dL_isHallSo_17 ?_
  refine r_icmp_ne (tgt := 61) dL_isHallSo_18 (by decide) (fun c => absurd rfl c) (fun c => ?_)
  refine rAload_n dL_isHallSo_21 rfl ?_
  refine rIload_n dL_isHallSo_22 rfl ?_
  refine sCallVi (M' := mX6_gold) (rm' := rmD 9 9 54) (As := [.int (nI p)]) (rest := []) dL_isHallSo_23 rfl mk_X6_gold mi_X6_gold ll_L_68 ⟨(Nat.le_of_ble_eq_true rfl), (Nat.le_of_ble_eq_true rfl)⟩ ho.1 (by decide) rfl rfl (Nat.le_of_ble_eq_true rfl) (Nat.le_of_ble_eq_true rfl) (q_gold ho p3  hfl hp) rfl (Nat.le_of_ble_eq_true rfl) (fun v s4 hv => ?_)
  obtain ⟨rfl, p4, f4⟩ := hv
  have g4 := hFr.trans g3 f4
  refine RW.widen (k := 216) (n := 1296) (Nat.le_of_ble_eq_true rfl) (Nat.le_of_ble_eq_true rfl) ?_
  show RW G _ _ _ _ 26 [some (.ref (ad V o)), some (.int (nI p)), some (.int (nI ((pBrd (hY h p)).length))), none, none, none, none] [.int (nI (pGold (hY h p)))] _ _ _
  refine r_if_lt (tgt := 61) dL_isHallSo_26 (by decide) (fun c => absurd c (nI_pos (by omega))) (fun c => ?_)
  refine rAload_n dL_isHallSo_29 rfl ?_
  refine rIload_n dL_isHallSo_30 rfl ?_
  refine sCallVi (M' := mX6_gold) (rm' := rmD 9 9 54) (As := [.int (nI p)]) (rest := []) dL_isHallSo_31 rfl mk_X6_gold mi_X6_gold ll_L_68 ⟨(Nat.le_of_ble_eq_true rfl), (Nat.le_of_ble_eq_true rfl)⟩ ho.1 (by decide) rfl rfl (Nat.le_of_ble_eq_true rfl) (Nat.le_of_ble_eq_true rfl) (q_gold ho p4  hfl hp) rfl (Nat.le_of_ble_eq_true rfl) (fun v s5 hv => ?_)
  obtain ⟨rfl, p5, f5⟩ := hv
  have g5 := hFr.trans g4 f5
  refine RW.widen (k := 225) (n := 1350) (Nat.le_of_ble_eq_true rfl) (Nat.le_of_ble_eq_true rfl) ?_
  show RW G _ _ _ _ 34 [some (.ref (ad V o)), some (.int (nI p)), some (.int (nI ((pBrd (hY h p)).length))), none, none, none, none] [.int (nI (pGold (hY h p)))] _ _ _
  refine rBipush (v := (nI (100))) dL_isHallSo_34 (by decide) ?_
  refine r_icmp_gt (tgt := 61) dL_isHallSo_36 (by decide) (fun c => absurd c (nI_nlt (by omega) (by omega))) (fun c => ?_)
  refine rAload_n dL_isHallSo_39 rfl ?_
  refine rIload_n dL_isHallSo_40 rfl ?_
  refine sCallVi (M' := mX6_health) (rm' := rmD 9 9 54) (As := [.int (nI p)]) (rest := []) dL_isHallSo_41 rfl mk_X6_health mi_X6_health ll_L_71 ⟨(Nat.le_of_ble_eq_true rfl), (Nat.le_of_ble_eq_true rfl)⟩ ho.1 (by decide) rfl rfl (Nat.le_of_ble_eq_true rfl) (Nat.le_of_ble_eq_true rfl) (q_health ho p5  hfl hp) rfl (Nat.le_of_ble_eq_true rfl) (fun v s6 hv => ?_)
  obtain ⟨rfl, p6, f6⟩ := hv
  have g6 := hFr.trans g5 f6
  refine RW.widen (k := 234) (n := 1404) (Nat.le_of_ble_eq_true rfl) (Nat.le_of_ble_eq_true rfl) ?_
  show RW G _ _ _ _ 44 [some (.ref (ad V o)), some (.int (nI p)), some (.int (nI ((pBrd (hY h p)).length))), none, none, none, none] [.int (nI (pHth (hY h p)))] _ _ _
  refine r_if_lt (tgt := 61) dL_isHallSo_44 (by decide) (fun c => absurd c (nI_pos (by omega))) (fun c => ?_)
  refine rAload_n dL_isHallSo_47 rfl ?_
  refine rIload_n dL_isHallSo_48 rfl ?_
  refine sCallVi (M' := mX6_health) (rm' := rmD 9 9 54) (As := [.int (nI p)]) (rest := []) dL_isHallSo_49 rfl mk_X6_health mi_X6_health ll_L_71 ⟨(Nat.le_of_ble_eq_true rfl), (Nat.le_of_ble_eq_true rfl)⟩ ho.1 (by decide) rfl rfl (Nat.le_of_ble_eq_true rfl) (Nat.le_of_ble_eq_true rfl) (q_health ho p6  hfl hp) rfl (Nat.le_of_ble_eq_true rfl) (fun v s7 hv => ?_)
  obtain ⟨rfl, p7, f7⟩ := hv
  have g7 := hFr.trans g6 f7
  refine RW.widen (k := 243) (n := 1458) (Nat.le_of_ble_eq_true rfl) (Nat.le_of_ble_eq_true rfl) ?_
  show RW G _ _ _ _ 52 [some (.ref (ad V o)), some (.int (nI p)), some (.int (nI ((pBrd (hY h p)).length))), none, none, none, none] [.int (nI (pHth (hY h p)))] _ _ _
  refine rBipush (v := (nI (20))) dL_isHallSo_52 (by decide) ?_
  refine r_icmp_gt (tgt := 61) dL_isHallSo_54 (by decide) (fun c => absurd c (nI_nlt (by omega) (by omega))) (fun c => ?_)
  refine rIconst (v := (nI (1))) dL_isHallSo_57 (by decide) ?_
  refine rGoto (tgt := 62) dL_isHallSo_58 (by decide) ?_
  refine rIstore_n dL_isHallSo_62 (by decide) ?_
  show RW G _ _ _ _ 63 [some (.ref (ad V o)), some (.int (nI p)), some (.int (nI ((pBrd (hY h p)).length))), some (.int (nI 1)), none, none, none] [] _ _ _
  refine rIconst (v := (nI (0))) dL_isHallSo_63 (by decide) ?_
  refine rIstore dL_isHallSo_64 (by decide) ?_
  show RW G _ _ _ _ 66 [some (.ref (ad V o)), some (.int (nI p)), some (.int (nI ((pBrd (hY h p)).length))), some (.int (nI 1)), some (.int (nI 0)), none, none] [] _ _ _
  refine loopG (σ := sgT) (243) (1458) 36 216 (9) (fun i _ => [some (.ref (ad V o)), some (.int (nI p)), some (.int (nI ((pBrd (hY h p)).length))), some (.int (nI 1)), some (.int (nI i)), none, none]) (fun _ x => x) (fun i x => hallIs x o h ∧ hFr s x o) s7 ⟨p7, g7⟩ (fun i x hi hinv ih => ?_)
  show RW G _ _ _ _ 66 [some (.ref (ad V o)), some (.int (nI p)), some (.int (nI ((pBrd (hY h p)).length))), some (.int (nI 1)), some (.int (nI i)), none, none] [] _ _ _
  refine rIload dL_isHallSo_66 rfl ?_
  refine rBipush (v := (nI (9))) dL_isHallSo_68 (by decide) ?_
  refine r_icmp_ge (tgt := 127) dL_isHallSo_70 (by decide) (fun c_70 => ?_) (fun c_70 => ?_)
  · have c_70 : 9 ≤ i := (nI_leI (by omega) (by omega)).mp c_70
    refine RW.widen (k := 567) (n := 3402) (by show 243 + 36 * i ≤ _; omega) (by show 1458 + 216 * i ≤ _; omega) ?_
    refine rIconst (v := (nI (0))) dL_isHallSo_127 (by decide) ?_
    refine rIstore dL_isHallSo_128 (by decide) ?_
    show RW G _ _ _ _ 130 [some (.ref (ad V o)), some (.int (nI p)), some (.int (nI ((pBrd (hY h p)).length))), some (.int (nI 1)), some (.int (nI 0)), none, none] [] _ _ _
    refine loopG (σ := sgT) (567) (3402) 18 108 ((pBrd (hY h p)).length) (fun k _ => [some (.ref (ad V o)), some (.int (nI p)), some (.int (nI ((pBrd (hY h p)).length))), some (.int (nI 1)), some (.int (nI k)), none, none]) (fun _ x => x) (fun k y => hallIs y o h ∧ hFr s y o) _ ⟨hinv.1, hinv.2⟩ (fun k y hk hinv2 ih2 => ?_)
    show RW G _ _ _ _ 130 [some (.ref (ad V o)), some (.int (nI p)), some (.int (nI ((pBrd (hY h p)).length))), some (.int (nI 1)), some (.int (nI k)), none, none] [] _ _ _
    refine rIload dL_isHallSo_130 rfl ?_
    refine rIload_n dL_isHallSo_132 rfl ?_
    refine r_icmp_ge (tgt := 228) dL_isHallSo_133 (by decide) (fun c_133 => ?_) (fun c_133 => ?_)
    · have c_133 : ((pBrd (hY h p)).length) ≤ k := (nI_leI (by omega) (by omega)).mp c_133
      refine rIload_n dL_isHallSo_228 rfl ?_
      exact sIret dL_isHallSo_229 rfl rfl (by show 567 + 18 * k ≤ 660; omega) (by show 3402 + 108 * k ≤ 3960; omega) ⟨_, rfl, rfl, hinv2.1, hinv2.2⟩
    · have c_133 : ¬ (((pBrd (hY h p)).length) ≤ k) := fun h => c_133 ((nI_leI (by omega) (by omega)).mpr h)
      have hk2 : k < (pBrd (hY h p)).length := by omega
      obtain ⟨u, eu⟩ : ∃ u, u = (pBrd (hY h p)).getD k 0 := ⟨_, rfl⟩
      have hou : okU u := by rw [eu]; exact o7 k hk2
      have hmu : u ∈ pBrd (hY h p) := by rw [eu]; exact getD_mem hk2
      obtain ⟨m, em⟩ : ∃ m, m = kinN (pBrd (hY h p)) (u / 10) := ⟨_, rfl⟩
      have hkn := kin_all hmu rfl hou.1
      rw [← em] at hkn
      have hs := str_eq (l := pBrd (hY h p)) (u := u)
      rw [← em] at hs
      unfold okU at hou
      refine rIload_n dL_isHallSo_136 rfl ?_
      refine r_if_eq (tgt := 228) dL_isHallSo_137 (by decide) (fun c => absurd c (by decide)) (fun c => ?_)
      refine rAload_n dL_isHallSo_140 rfl ?_
      refine rIload_n dL_isHallSo_141 rfl ?_
      refine rIload dL_isHallSo_142 rfl ?_
      refine sCallVi (M' := mX6_boardAt) (rm' := rmD 9 9 54) (As := [.int (nI p), .int (nI k)]) (rest := []) dL_isHallSo_144 rfl mk_X6_boardAt mi_X6_boardAt ll_L_53 ⟨(Nat.le_of_ble_eq_true rfl), (Nat.le_of_ble_eq_true rfl)⟩ ho.1 (by decide) rfl rfl (by show 567 + 18 * k + 9 ≤ 660; omega) (by show 3402 + 108 * k + 54 ≤ 3960; omega) (q_boardAt ho hinv2.1 hg hfl hp (by omega)) rfl (Nat.le_of_ble_eq_true rfl) (fun v s8 hv => ?_)
      obtain ⟨rfl, p8, f8⟩ := hv
      have g8 := hFr.trans hinv2.2 f8
      refine RW.widen (k := 567 + 18 * k + 9) (n := 3402 + 108 * k + 54) (by show 567 + 18 * k + 9 ≤ _; omega) (by show 3402 + 108 * k + 54 ≤ _; omega) ?_
      show RW G _ _ _ _ 147 [some (.ref (ad V o)), some (.int (nI p)), some (.int (nI ((pBrd (hY h p)).length))), some (.int (nI 1)), some (.int (nI k)), none, none] [.int (rowU (pBrd (hY h p)) k)] _ _ _
      refine tTop (w := (nI (u))) ((if_pos hk2).trans (congrArg nI eu.symm)) ?_
      refine rIstore dL_isHallSo_147 (by decide) ?_
      show RW G _ _ _ _ 149 [some (.ref (ad V o)), some (.int (nI p)), some (.int (nI ((pBrd (hY h p)).length))), some (.int (nI 1)), some (.int (nI k)), some (.int (nI u)), none] [] _ _ _
      refine rAload_n dL_isHallSo_149 rfl ?_
      refine rIload_n dL_isHallSo_150 rfl ?_
      refine rIload dL_isHallSo_151 rfl ?_
      refine sCallVi (M' := mX6_blow) (rm' := rmD 9 9 54) (As := [.int (nI p), .int (nI k)]) (rest := []) dL_isHallSo_153 rfl mk_X6_blow mi_X6_blow ll_L_96 ⟨(Nat.le_of_ble_eq_true rfl), (Nat.le_of_ble_eq_true rfl)⟩ ho.1 (by decide) rfl rfl (by show 567 + 18 * k + 9 + 9 ≤ 660; omega) (by show 3402 + 108 * k + 54 + 54 ≤ 3960; omega) (q_blow ho p8 hg hfl hp hk2) rfl (Nat.le_of_ble_eq_true rfl) (fun v s9 hv => ?_)
      obtain ⟨rfl, p9, f9⟩ := hv
      have g9 := hFr.trans g8 f9
      refine RW.widen (k := 567 + 18 * k + 18) (n := 3402 + 108 * k + 108) (by show 567 + 18 * k + 9 + 9 ≤ _; omega) (by show 3402 + 108 * k + 54 + 54 ≤ _; omega) ?_
      show RW G _ _ _ _ 156 [some (.ref (ad V o)), some (.int (nI p)), some (.int (nI ((pBrd (hY h p)).length))), some (.int (nI 1)), some (.int (nI k)), some (.int (nI u)), none] [.int (nI (strN (pBrd (hY h p)) ((pBrd (hY h p)).getD k 0)))] _ _ _
      refine tTop (w := (nI (strN (pBrd (hY h p)) u))) (by rw [eu]) ?_
      refine rIconst (v := (nI (2))) dL_isHallSo_156 (by decide) ?_
      refine rIload dL_isHallSo_157 rfl ?_
      refine rBipush (v := (nI (30))) dL_isHallSo_159 (by decide) ?_
      refine nIdiv dL_isHallSo_161 (by omega) (by decide) (by decide) ?_
      refine rIconst (v := (nI (1))) dL_isHallSo_162 (by decide) ?_
      refine nIadd dL_isHallSo_163 ?_
      refine nImul dL_isHallSo_164 ?_
      refine rIload dL_isHallSo_165 rfl ?_
      refine rBipush (v := (nI (10))) dL_isHallSo_167 (by decide) ?_
      refine nIrem dL_isHallSo_169 (by omega) (by decide) (by decide) ?_
      refine nImul dL_isHallSo_170 ?_
      refine nIsub dL_isHallSo_171 (by rw [hs]; exact Nat.le_add_right _ _) ?_
      refine tTop (w := (nI (m))) (congrArg nI (by rw [hs]; exact Nat.add_sub_cancel_left _ _)) ?_
      refine rIstore dL_isHallSo_172 (by decide) ?_
      show RW G _ _ _ _ 174 [some (.ref (ad V o)), some (.int (nI p)), some (.int (nI ((pBrd (hY h p)).length))), some (.int (nI 1)), some (.int (nI k)), some (.int (nI u)), some (.int (nI m))] [] _ _ _
      refine rIload dL_isHallSo_174 rfl ?_
      refine rBipush (v := (nI (90))) dL_isHallSo_176 (by decide) ?_
      refine r_icmp_ge (tgt := 220) dL_isHallSo_178 (by decide) (fun c => absurd c (nI_ge (by omega) (by omega))) (fun c => ?_)
      refine rIload dL_isHallSo_181 rfl ?_
      refine rBipush (v := (nI (10))) dL_isHallSo_183 (by decide) ?_
      refine nIrem dL_isHallSo_185 (by omega) (by decide) (by decide) ?_
      refine rIconst (v := (nI (1))) dL_isHallSo_186 (by decide) ?_
      refine r_icmp_lt (tgt := 220) dL_isHallSo_187 (by decide) (fun c => absurd c (nI_nlt (by omega) (by omega))) (fun c => ?_)
      refine rIload dL_isHallSo_190 rfl ?_
      refine rBipush (v := (nI (10))) dL_isHallSo_192 (by decide) ?_
      refine nIrem dL_isHallSo_194 (by omega) (by decide) (by decide) ?_
      refine rIconst (v := (nI (3))) dL_isHallSo_195 (by decide) ?_
      refine r_icmp_gt (tgt := 220) dL_isHallSo_196 (by decide) (fun c => absurd c (nI_nlt (by omega) (by omega))) (fun c => ?_)
      refine rIload dL_isHallSo_199 rfl ?_
      refine r_if_lt (tgt := 220) dL_isHallSo_201 (by decide) (fun c => absurd c (nI_pos (by omega))) (fun c => ?_)
      refine rIload dL_isHallSo_204 rfl ?_
      refine rIconst (v := (nI (2))) dL_isHallSo_206 (by decide) ?_
      refine r_icmp_gt (tgt := 220) dL_isHallSo_207 (by decide) (fun c => absurd c (nI_nlt (by omega) (by omega))) (fun c => ?_)
      refine rIload dL_isHallSo_210 rfl ?_
      refine rIload_n dL_isHallSo_212 rfl ?_
      refine r_icmp_ge (tgt := 220) dL_isHallSo_213 (by decide) (fun c => absurd c (nI_ge (by omega) (by omega))) (fun c => ?_)
      refine rIconst (v := (nI (1))) dL_isHallSo_216 (by decide) ?_
      refine rGoto (tgt := 221) dL_isHallSo_217 (by decide) ?_
      refine rIstore_n dL_isHallSo_221 (by decide) ?_
      show RW G _ _ _ _ 222 [some (.ref (ad V o)), some (.int (nI p)), some (.int (nI ((pBrd (hY h p)).length))), some (.int (nI 1)), some (.int (nI k)), some (.int (nI u)), some (.int (nI m))] [] _ _ _
      refine rIinc (v := (nI (k + 1))) dL_isHallSo_222 rfl (by first | exact nI_add _ _ | rfl) (by decide) ?_
      show RW G _ _ _ _ 225 [some (.ref (ad V o)), some (.int (nI p)), some (.int (nI ((pBrd (hY h p)).length))), some (.int (nI 1)), some (.int (nI (k + 1))), some (.int (nI u)), some (.int (nI m))] [] _ _ _
      refine rGoto (tgt := 130) dL_isHallSo_225 (by decide) ?_
      refine rForget (L := [some (.ref (ad V o)), some (.int (nI p)), some (.int (nI ((pBrd (hY h p)).length))), some (.int (nI 1)), some (.int (nI (k + 1))), some (.int (nI u)), some (.int (nI m))]) (L' := [some (.ref (ad V o)), some (.int (nI p)), some (.int (nI ((pBrd (hY h p)).length))), some (.int (nI 1)), some (.int (nI (k + 1))), none, none]) (by exact ⟨rfl, ⟨rfl, ⟨rfl, ⟨rfl, ⟨rfl, trivial⟩⟩⟩⟩⟩) ?_
      exact RW.widen (k := 567 + 18 * (k + 1)) (n := 3402 + 108 * (k + 1)) (by omega) (by omega) (ih2 (by omega) _ ⟨p9, g9⟩)
  · have c_70 : ¬ (9 ≤ i) := fun h => c_70 ((nI_leI (by omega) (by omega)).mpr h)
    have hi9 : i < 9 := by omega
    have hcs := hg.2.1 i hi9
    have hpo := hg.1.2.1 i hi9
    refine rIload_n dL_isHallSo_73 rfl ?_
    refine r_if_eq (tgt := 127) dL_isHallSo_74 (by decide) (fun c => absurd c (by decide)) (fun c => ?_)
    refine rAload_n dL_isHallSo_77 rfl ?_
    refine rIload dL_isHallSo_78 rfl ?_
    refine sCallVi (M' := mX6_pool) (rm' := rmD 9 9 54) (As := [.int (nI i)]) (rest := []) dL_isHallSo_80 rfl mk_X6_pool mi_X6_pool ll_L_90 ⟨(Nat.le_of_ble_eq_true rfl), (Nat.le_of_ble_eq_true rfl)⟩ ho.1 (by decide) rfl rfl (by show 243 + 36 * i + 9 ≤ 660; omega) (by show 1458 + 216 * i + 54 ≤ 3960; omega) (q_pool ho hinv.1  hfl hi9) rfl (Nat.le_of_ble_eq_true rfl) (fun v s8 hv => ?_)
    obtain ⟨rfl, p8, f8⟩ := hv
    have g8 := hFr.trans hinv.2 f8
    refine RW.widen (k := 243 + 36 * i + 9) (n := 1458 + 216 * i + 54) (by show 243 + 36 * i + 9 ≤ _; omega) (by show 1458 + 216 * i + 54 ≤ _; omega) ?_
    show RW G _ _ _ _ 83 [some (.ref (ad V o)), some (.int (nI p)), some (.int (nI ((pBrd (hY h p)).length))), some (.int (nI 1)), some (.int (nI i)), none, none] [.int (nI (hP h i))] _ _ _
    refine r_if_lt (tgt := 119) dL_isHallSo_83 (by decide) (fun c => absurd c (nI_pos (by omega))) (fun c => ?_)
    refine rAload_n dL_isHallSo_86 rfl ?_
    refine rIload dL_isHallSo_87 rfl ?_
    refine sCallVi (M' := mX6_pool) (rm' := rmD 9 9 54) (As := [.int (nI i)]) (rest := []) dL_isHallSo_89 rfl mk_X6_pool mi_X6_pool ll_L_90 ⟨(Nat.le_of_ble_eq_true rfl), (Nat.le_of_ble_eq_true rfl)⟩ ho.1 (by decide) rfl rfl (by show 243 + 36 * i + 9 + 9 ≤ 660; omega) (by show 1458 + 216 * i + 54 + 54 ≤ 3960; omega) (q_pool ho p8  hfl hi9) rfl (Nat.le_of_ble_eq_true rfl) (fun v s9 hv => ?_)
    obtain ⟨rfl, p9, f9⟩ := hv
    have g9 := hFr.trans g8 f9
    refine RW.widen (k := 243 + 36 * i + 18) (n := 1458 + 216 * i + 108) (by show 243 + 36 * i + 9 + 9 ≤ _; omega) (by show 1458 + 216 * i + 54 + 54 ≤ _; omega) ?_
    show RW G _ _ _ _ 92 [some (.ref (ad V o)), some (.int (nI p)), some (.int (nI ((pBrd (hY h p)).length))), some (.int (nI 1)), some (.int (nI i)), none, none] [.int (nI (hP h i))] _ _ _
    refine rBipush (v := (nI (9))) dL_isHallSo_92 (by decide) ?_
    refine r_icmp_gt (tgt := 119) dL_isHallSo_94 (by decide) (fun c => absurd c (nI_nlt (by omega) (by omega))) (fun c => ?_)
    refine rAload_n dL_isHallSo_97 rfl ?_
    refine rIload dL_isHallSo_98 rfl ?_
    refine sCallVi (M' := mX6_pool) (rm' := rmD 9 9 54) (As := [.int (nI i)]) (rest := []) dL_isHallSo_100 rfl mk_X6_pool mi_X6_pool ll_L_90 ⟨(Nat.le_of_ble_eq_true rfl), (Nat.le_of_ble_eq_true rfl)⟩ ho.1 (by decide) rfl rfl (by show 243 + 36 * i + 18 + 9 ≤ 660; omega) (by show 1458 + 216 * i + 108 + 54 ≤ 3960; omega) (q_pool ho p9  hfl hi9) rfl (Nat.le_of_ble_eq_true rfl) (fun v s10 hv => ?_)
    obtain ⟨rfl, p10, f10⟩ := hv
    have g10 := hFr.trans g9 f10
    refine RW.widen (k := 243 + 36 * i + 27) (n := 1458 + 216 * i + 162) (by show 243 + 36 * i + 18 + 9 ≤ _; omega) (by show 1458 + 216 * i + 108 + 54 ≤ _; omega) ?_
    show RW G _ _ _ _ 103 [some (.ref (ad V o)), some (.int (nI p)), some (.int (nI ((pBrd (hY h p)).length))), some (.int (nI 1)), some (.int (nI i)), none, none] [.int (nI (hP h i))] _ _ _
    refine rAload_n dL_isHallSo_103 rfl ?_
    refine rIload dL_isHallSo_104 rfl ?_
    refine sCallVi (M' := mX6_out) (rm' := rmD 9 9 54) (As := [.int (nI i)]) (rest := [.int (nI (hP h i))]) dL_isHallSo_106 rfl mk_X6_out mi_X6_out ll_L_93 ⟨(Nat.le_of_ble_eq_true rfl), (Nat.le_of_ble_eq_true rfl)⟩ ho.1 (by decide) rfl rfl (by show 243 + 36 * i + 27 + 9 ≤ 660; omega) (by show 1458 + 216 * i + 162 + 54 ≤ 3960; omega) (q_out ho p10 hg hfl hi9) rfl (Nat.le_of_ble_eq_true rfl) (fun v s11 hv => ?_)
    obtain ⟨rfl, p11, f11⟩ := hv
    have g11 := hFr.trans g10 f11
    refine RW.widen (k := 243 + 36 * i + 36) (n := 1458 + 216 * i + 216) (by show 243 + 36 * i + 27 + 9 ≤ _; omega) (by show 1458 + 216 * i + 162 + 54 ≤ _; omega) ?_
    show RW G _ _ _ _ 109 [some (.ref (ad V o)), some (.int (nI p)), some (.int (nI ((pBrd (hY h p)).length))), some (.int (nI 1)), some (.int (nI i)), none, none] [.int (nI (outN h i 4)), .int (nI (hP h i))] _ _ _
    refine nIadd dL_isHallSo_109 ?_
    refine rBipush (v := (nI (9))) dL_isHallSo_110 (by decide) ?_
    refine r_icmp_ne (tgt := 119) dL_isHallSo_112 (by decide) (fun c => absurd (congrArg nI hcs) c) (fun c => ?_)
    refine rIconst (v := (nI (1))) dL_isHallSo_115 (by decide) ?_
    refine rGoto (tgt := 120) dL_isHallSo_116 (by decide) ?_
    refine rIstore_n dL_isHallSo_120 (by decide) ?_
    show RW G _ _ _ _ 121 [some (.ref (ad V o)), some (.int (nI p)), some (.int (nI ((pBrd (hY h p)).length))), some (.int (nI 1)), some (.int (nI i)), none, none] [] _ _ _
    refine rIinc (v := (nI (i + 1))) dL_isHallSo_121 rfl (by first | exact nI_add _ _ | rfl) (by decide) ?_
    show RW G _ _ _ _ 124 [some (.ref (ad V o)), some (.int (nI p)), some (.int (nI ((pBrd (hY h p)).length))), some (.int (nI 1)), some (.int (nI (i + 1))), none, none] [] _ _ _
    refine rGoto (tgt := 66) dL_isHallSo_124 (by decide) ?_
    exact RW.widen (k := 243 + 36 * (i + 1)) (n := 1458 + 216 * (i + 1)) (by omega) (by omega) (ih (by omega) _ ⟨p11, g11⟩)
set_option maxRecDepth 100000 in
set_option maxHeartbeats 4000000 in
theorem c_L_isFoughtSo {G : gG} {V : wV} {lo : Nat → Int64} {o : Nat} (ho : hallAt V o) {s : sgT} {h : hT} (hh : hallIs s o h) (hg : good h) (hfl : (gl G).stackTraces = false) {p q : Nat} (hp : p < 4) (hq : q < 4) (hpq : ¬ p = q) : CSi G V mL_isFoughtSo cL_isFoughtSo (rmD 11 288 1728) [.ref (ad V o), .int (nI p), .int (nI q)] s lo (fun v s' => aPost o s h (nI 1) v s') (fun _ => False) := by
  refine CSi.of (L := [some (.ref (ad V o)), some (.int (nI p)), some (.int (nI q)), none, none]) rfl (by decide +kernel) rfl (Nat.le_of_ble_eq_true rfl) rfl ?_
  have hn : (pBrd (hY h p)).length ≤ 5 := (plOk_len hg.1 hp).2.1
  have hm : (pBrd (hY h q)).length ≤ 5 := (plOk_len hg.1 hq).2.1
  have oP : okR (pBrd (hY h p)) := (hg.1.2.2.1 p hp).2.2.2.2.2.2.1
  have oQ : okR (pBrd (hY h q)) := (hg.1.2.2.1 q hq).2.2.2.2.2.2.1
  have hA : livA (pBrd (hY h p)) (pBrd (hY h q)) ≤ (pBrd (hY h p)).length := livN_le _
  have hB : livB (pBrd (hY h p)) (pBrd (hY h q)) ≤ (pBrd (hY h q)).length := livN_le _
  have h0 := liv_0 (l0 := pBrd (hY h p)) oQ
  have h1 := liv_1 (l1 := pBrd (hY h q)) oP
  refine rAload_n dL_isFoughtSo_0 rfl ?_
  refine rIload_n dL_isFoughtSo_1 rfl ?_
  refine rIload_n dL_isFoughtSo_2 rfl ?_
  refine sCallVi (M' := mX6_fight) (rm' := rmD 9 9 54) (As := [.int (nI p), .int (nI q)]) (rest := []) dL_isFoughtSo_3 rfl mk_X6_fight mi_X6_fight ll_L_99 ⟨(Nat.le_of_ble_eq_true rfl), (Nat.le_of_ble_eq_true rfl)⟩ ho.1 (by decide) rfl rfl (Nat.le_of_ble_eq_true rfl) (Nat.le_of_ble_eq_true rfl) (q_fight ho hh hg hfl hp hq hpq) rfl (Nat.le_of_ble_eq_true rfl) (fun v s1 hv => ?_)
  obtain ⟨rfl, p1, f1⟩ := hv
  have g1 := hFr.trans hFr.refl f1
  refine RW.widen (k := 9) (n := 54) (Nat.le_of_ble_eq_true rfl) (Nat.le_of_ble_eq_true rfl) ?_
  show RW G _ _ _ _ 6 [some (.ref (ad V o)), some (.int (nI p)), some (.int (nI q)), none, none] [.int (nI (livA (pBrd (hY h p)) (pBrd (hY h q))) - nI (livB (pBrd (hY h p)) (pBrd (hY h q))))] _ _ _
  refine rIstore_n dL_isFoughtSo_6 (by decide) ?_
  show RW G _ _ _ _ 7 [some (.ref (ad V o)), some (.int (nI p)), some (.int (nI q)), some (.int (nI (livA (pBrd (hY h p)) (pBrd (hY h q))) - nI (livB (pBrd (hY h p)) (pBrd (hY h q))))), none] [] _ _ _
  refine rAload_n dL_isFoughtSo_7 rfl ?_
  refine rIload_n dL_isFoughtSo_8 rfl ?_
  refine rIload_n dL_isFoughtSo_9 rfl ?_
  refine sCallVi (M' := mX6_fightByRecord) (rm' := rmD 9 9 54) (As := [.int (nI p), .int (nI q)]) (rest := []) dL_isFoughtSo_10 rfl mk_X6_fightByRecord mi_X6_fightByRecord ll_L_102 ⟨(Nat.le_of_ble_eq_true rfl), (Nat.le_of_ble_eq_true rfl)⟩ ho.1 (by decide) rfl rfl (Nat.le_of_ble_eq_true rfl) (Nat.le_of_ble_eq_true rfl) (q_fightByRecord ho p1 hg hfl hp hq hpq) rfl (Nat.le_of_ble_eq_true rfl) (fun v s2 hv => ?_)
  obtain ⟨rfl, p2, f2⟩ := hv
  have g2 := hFr.trans g1 f2
  refine RW.widen (k := 18) (n := 108) (Nat.le_of_ble_eq_true rfl) (Nat.le_of_ble_eq_true rfl) ?_
  show RW G _ _ _ _ 13 [some (.ref (ad V o)), some (.int (nI p)), some (.int (nI q)), some (.int (nI (livA (pBrd (hY h p)) (pBrd (hY h q))) - nI (livB (pBrd (hY h p)) (pBrd (hY h q))))), none] [.int (nI (livA (pBrd (hY h p)) (pBrd (hY h q))) - nI (livB (pBrd (hY h p)) (pBrd (hY h q))))] _ _ _
  refine rIload_n dL_isFoughtSo_13 rfl ?_
  refine r_icmp_ne (tgt := 40) dL_isFoughtSo_14 (by decide) (fun c => absurd rfl c) (fun c => ?_)
  refine rIload_n dL_isFoughtSo_17 rfl ?_
  refine rAload_n dL_isFoughtSo_18 rfl ?_
  refine rIload_n dL_isFoughtSo_19 rfl ?_
  refine sCallSi (M' := mL_board) (rm' := rmD 10 45 270) (As := [.ref (ad V o), .int (nI p)]) (rest := [.int (nI (livA (pBrd (hY h p)) (pBrd (hY h q))) - nI (livB (pBrd (hY h p)) (pBrd (hY h q))))]) dL_isFoughtSo_20 rfl mk_L_board ms_L_board ll_L_80 ⟨(Nat.le_of_ble_eq_true rfl), (Nat.le_of_ble_eq_true rfl)⟩ rfl (Nat.le_of_ble_eq_true rfl) (Nat.le_of_ble_eq_true rfl) (c_L_board ho p2 hg hfl hp) rfl (Nat.le_of_ble_eq_true rfl) (fun v s3 hv => ?_)
  obtain ⟨rfl, p3, f3⟩ := hv
  have g3 := hFr.trans g2 f3
  refine RW.widen (k := 63) (n := 378) (Nat.le_of_ble_eq_true rfl) (Nat.le_of_ble_eq_true rfl) ?_
  show RW G _ _ _ _ 23 [some (.ref (ad V o)), some (.int (nI p)), some (.int (nI q)), some (.int (nI (livA (pBrd (hY h p)) (pBrd (hY h q))) - nI (livB (pBrd (hY h p)) (pBrd (hY h q))))), none] [.int (nI ((pBrd (hY h p)).length)), .int (nI (livA (pBrd (hY h p)) (pBrd (hY h q))) - nI (livB (pBrd (hY h p)) (pBrd (hY h q))))] _ _ _
  refine r_icmp_gt (tgt := 40) dL_isFoughtSo_23 (by decide) (fun c => absurd c (d_le _ (by omega) _ (by omega) _ (by omega) hA)) (fun c => ?_)
  refine rIload_n dL_isFoughtSo_26 rfl ?_
  refine rIneg dL_isFoughtSo_27 ?_
  refine rAload_n dL_isFoughtSo_28 rfl ?_
  refine rIload_n dL_isFoughtSo_29 rfl ?_
  refine sCallSi (M' := mL_board) (rm' := rmD 10 45 270) (As := [.ref (ad V o), .int (nI q)]) (rest := [.int (-(nI (livA (pBrd (hY h p)) (pBrd (hY h q))) - nI (livB (pBrd (hY h p)) (pBrd (hY h q)))))]) dL_isFoughtSo_30 rfl mk_L_board ms_L_board ll_L_80 ⟨(Nat.le_of_ble_eq_true rfl), (Nat.le_of_ble_eq_true rfl)⟩ rfl (Nat.le_of_ble_eq_true rfl) (Nat.le_of_ble_eq_true rfl) (c_L_board ho p3 hg hfl hq) rfl (Nat.le_of_ble_eq_true rfl) (fun v s4 hv => ?_)
  obtain ⟨rfl, p4, f4⟩ := hv
  have g4 := hFr.trans g3 f4
  refine RW.widen (k := 108) (n := 648) (Nat.le_of_ble_eq_true rfl) (Nat.le_of_ble_eq_true rfl) ?_
  show RW G _ _ _ _ 33 [some (.ref (ad V o)), some (.int (nI p)), some (.int (nI q)), some (.int (nI (livA (pBrd (hY h p)) (pBrd (hY h q))) - nI (livB (pBrd (hY h p)) (pBrd (hY h q))))), none] [.int (nI ((pBrd (hY h q)).length)), .int (-(nI (livA (pBrd (hY h p)) (pBrd (hY h q))) - nI (livB (pBrd (hY h p)) (pBrd (hY h q)))))] _ _ _
  refine r_icmp_gt (tgt := 40) dL_isFoughtSo_33 (by decide) (fun c => absurd (by rw [d_neg _ (by omega) _ (by omega)] at c; exact c) (d_le _ (by omega) _ (by omega) _ (by omega) hB)) (fun c => ?_)
  refine rIconst (v := (nI (1))) dL_isFoughtSo_36 (by decide) ?_
  refine rGoto (tgt := 41) dL_isFoughtSo_37 (by decide) ?_
  refine rIstore dL_isFoughtSo_41 (by decide) ?_
  show RW G _ _ _ _ 43 [some (.ref (ad V o)), some (.int (nI p)), some (.int (nI q)), some (.int (nI (livA (pBrd (hY h p)) (pBrd (hY h q))) - nI (livB (pBrd (hY h p)) (pBrd (hY h q))))), some (.int (nI 1))] [] _ _ _
  refine rIload dL_isFoughtSo_43 rfl ?_
  refine r_if_eq (tgt := 87) dL_isFoughtSo_45 (by decide) (fun c => absurd c (by decide)) (fun c => ?_)
  refine rAload_n dL_isFoughtSo_48 rfl ?_
  refine rIload_n dL_isFoughtSo_49 rfl ?_
  refine sCallSi (M' := mL_board) (rm' := rmD 10 45 270) (As := [.ref (ad V o), .int (nI p)]) (rest := []) dL_isFoughtSo_50 rfl mk_L_board ms_L_board ll_L_80 ⟨(Nat.le_of_ble_eq_true rfl), (Nat.le_of_ble_eq_true rfl)⟩ rfl (Nat.le_of_ble_eq_true rfl) (Nat.le_of_ble_eq_true rfl) (c_L_board ho p4 hg hfl hp) rfl (Nat.le_of_ble_eq_true rfl) (fun v s5 hv => ?_)
  obtain ⟨rfl, p5, f5⟩ := hv
  have g5 := hFr.trans g4 f5
  refine RW.widen (k := 153) (n := 918) (Nat.le_of_ble_eq_true rfl) (Nat.le_of_ble_eq_true rfl) ?_
  show RW G _ _ _ _ 53 [some (.ref (ad V o)), some (.int (nI p)), some (.int (nI q)), some (.int (nI (livA (pBrd (hY h p)) (pBrd (hY h q))) - nI (livB (pBrd (hY h p)) (pBrd (hY h q))))), some (.int (nI 1))] [.int (nI ((pBrd (hY h p)).length))] _ _ _
  refine r_if_gt (tgt := 66) dL_isFoughtSo_53 (by decide) (fun c_53 => ?_) (fun c_53 => ?_)
  · have c_53 : 0 < ((pBrd (hY h p)).length) := (nz_gt (by omega)).mp c_53
    refine rAload_n dL_isFoughtSo_66 rfl ?_
    refine rIload_n dL_isFoughtSo_67 rfl ?_
    refine sCallSi (M' := mL_board) (rm' := rmD 10 45 270) (As := [.ref (ad V o), .int (nI q)]) (rest := []) dL_isFoughtSo_68 rfl mk_L_board ms_L_board ll_L_80 ⟨(Nat.le_of_ble_eq_true rfl), (Nat.le_of_ble_eq_true rfl)⟩ rfl (Nat.le_of_ble_eq_true rfl) (Nat.le_of_ble_eq_true rfl) (c_L_board ho p5 hg hfl hq) rfl (Nat.le_of_ble_eq_true rfl) (fun v s6 hv => ?_)
    obtain ⟨rfl, p6, f6⟩ := hv
    have g6 := hFr.trans g5 f6
    refine RW.widen (k := 198) (n := 1188) (Nat.le_of_ble_eq_true rfl) (Nat.le_of_ble_eq_true rfl) ?_
    show RW G _ _ _ _ 71 [some (.ref (ad V o)), some (.int (nI p)), some (.int (nI q)), some (.int (nI (livA (pBrd (hY h p)) (pBrd (hY h q))) - nI (livB (pBrd (hY h p)) (pBrd (hY h q))))), some (.int (nI 1))] [.int (nI ((pBrd (hY h q)).length))] _ _ _
    refine r_if_gt (tgt := 83) dL_isFoughtSo_71 (by decide) (fun c_71 => ?_) (fun c_71 => ?_)
    · have c_71 : 0 < ((pBrd (hY h q)).length) := (nz_gt (by omega)).mp c_71
      refine rIconst (v := (nI (1))) dL_isFoughtSo_83 (by decide) ?_
      refine rGoto (tgt := 88) dL_isFoughtSo_84 (by decide) ?_
      exact sIret dL_isFoughtSo_88 rfl rfl (Nat.le_of_ble_eq_true rfl) (Nat.le_of_ble_eq_true rfl) ⟨_, rfl, rfl, p6, g6⟩
    · have c_71 : ¬ (0 < ((pBrd (hY h q)).length)) := fun h => c_71 ((nz_gt (by omega)).mpr h)
      have z1 : (pBrd (hY h q)).length = 0 := by omega
      refine rIload_n dL_isFoughtSo_74 rfl ?_
      refine rAload_n dL_isFoughtSo_75 rfl ?_
      refine rIload_n dL_isFoughtSo_76 rfl ?_
      refine sCallSi (M' := mL_board) (rm' := rmD 10 45 270) (As := [.ref (ad V o), .int (nI p)]) (rest := [.int (nI (livA (pBrd (hY h p)) (pBrd (hY h q))) - nI (livB (pBrd (hY h p)) (pBrd (hY h q))))]) dL_isFoughtSo_77 rfl mk_L_board ms_L_board ll_L_80 ⟨(Nat.le_of_ble_eq_true rfl), (Nat.le_of_ble_eq_true rfl)⟩ rfl (Nat.le_of_ble_eq_true rfl) (Nat.le_of_ble_eq_true rfl) (c_L_board ho p6 hg hfl hp) rfl (Nat.le_of_ble_eq_true rfl) (fun v s7 hv => ?_)
      obtain ⟨rfl, p7, f7⟩ := hv
      have g7 := hFr.trans g6 f7
      refine RW.widen (k := 243) (n := 1458) (Nat.le_of_ble_eq_true rfl) (Nat.le_of_ble_eq_true rfl) ?_
      show RW G _ _ _ _ 80 [some (.ref (ad V o)), some (.int (nI p)), some (.int (nI q)), some (.int (nI (livA (pBrd (hY h p)) (pBrd (hY h q))) - nI (livB (pBrd (hY h p)) (pBrd (hY h q))))), some (.int (nI 1))] [.int (nI ((pBrd (hY h p)).length)), .int (nI (livA (pBrd (hY h p)) (pBrd (hY h q))) - nI (livB (pBrd (hY h p)) (pBrd (hY h q))))] _ _ _
      refine r_icmp_ne (tgt := 87) dL_isFoughtSo_80 (by decide) (fun c => absurd (by rw [(h1 z1).1, (h1 z1).2]; exact d_1 _ (by omega)) c) (fun c => ?_)
      refine rIconst (v := (nI (1))) dL_isFoughtSo_83 (by decide) ?_
      refine rGoto (tgt := 88) dL_isFoughtSo_84 (by decide) ?_
      exact sIret dL_isFoughtSo_88 rfl rfl (Nat.le_of_ble_eq_true rfl) (Nat.le_of_ble_eq_true rfl) ⟨_, rfl, rfl, p7, g7⟩
  · have c_53 : ¬ (0 < ((pBrd (hY h p)).length)) := fun h => c_53 ((nz_gt (by omega)).mpr h)
    have z0 : (pBrd (hY h p)).length = 0 := by omega
    refine rIload_n dL_isFoughtSo_56 rfl ?_
    refine rAload_n dL_isFoughtSo_57 rfl ?_
    refine rIload_n dL_isFoughtSo_58 rfl ?_
    refine sCallSi (M' := mL_board) (rm' := rmD 10 45 270) (As := [.ref (ad V o), .int (nI q)]) (rest := [.int (nI (livA (pBrd (hY h p)) (pBrd (hY h q))) - nI (livB (pBrd (hY h p)) (pBrd (hY h q))))]) dL_isFoughtSo_59 rfl mk_L_board ms_L_board ll_L_80 ⟨(Nat.le_of_ble_eq_true rfl), (Nat.le_of_ble_eq_true rfl)⟩ rfl (Nat.le_of_ble_eq_true rfl) (Nat.le_of_ble_eq_true rfl) (c_L_board ho p5 hg hfl hq) rfl (Nat.le_of_ble_eq_true rfl) (fun v s6 hv => ?_)
    obtain ⟨rfl, p6, f6⟩ := hv
    have g6 := hFr.trans g5 f6
    refine RW.widen (k := 198) (n := 1188) (Nat.le_of_ble_eq_true rfl) (Nat.le_of_ble_eq_true rfl) ?_
    show RW G _ _ _ _ 62 [some (.ref (ad V o)), some (.int (nI p)), some (.int (nI q)), some (.int (nI (livA (pBrd (hY h p)) (pBrd (hY h q))) - nI (livB (pBrd (hY h p)) (pBrd (hY h q))))), some (.int (nI 1))] [.int (nI ((pBrd (hY h q)).length)), .int (nI (livA (pBrd (hY h p)) (pBrd (hY h q))) - nI (livB (pBrd (hY h p)) (pBrd (hY h q))))] _ _ _
    refine rIneg dL_isFoughtSo_62 ?_
    refine r_icmp_ne (tgt := 87) dL_isFoughtSo_63 (by decide) (fun c => absurd (by rw [(h0 z0).1, (h0 z0).2]; exact d_0 _ (by omega)) c) (fun c => ?_)
    refine rAload_n dL_isFoughtSo_66 rfl ?_
    refine rIload_n dL_isFoughtSo_67 rfl ?_
    refine sCallSi (M' := mL_board) (rm' := rmD 10 45 270) (As := [.ref (ad V o), .int (nI q)]) (rest := []) dL_isFoughtSo_68 rfl mk_L_board ms_L_board ll_L_80 ⟨(Nat.le_of_ble_eq_true rfl), (Nat.le_of_ble_eq_true rfl)⟩ rfl (Nat.le_of_ble_eq_true rfl) (Nat.le_of_ble_eq_true rfl) (c_L_board ho p6 hg hfl hq) rfl (Nat.le_of_ble_eq_true rfl) (fun v s7 hv => ?_)
    obtain ⟨rfl, p7, f7⟩ := hv
    have g7 := hFr.trans g6 f7
    refine RW.widen (k := 243) (n := 1458) (Nat.le_of_ble_eq_true rfl) (Nat.le_of_ble_eq_true rfl) ?_
    show RW G _ _ _ _ 71 [some (.ref (ad V o)), some (.int (nI p)), some (.int (nI q)), some (.int (nI (livA (pBrd (hY h p)) (pBrd (hY h q))) - nI (livB (pBrd (hY h p)) (pBrd (hY h q))))), some (.int (nI 1))] [.int (nI ((pBrd (hY h q)).length))] _ _ _
    refine r_if_gt (tgt := 83) dL_isFoughtSo_71 (by decide) (fun c_71 => ?_) (fun c_71 => ?_)
    · have c_71 : 0 < ((pBrd (hY h q)).length) := (nz_gt (by omega)).mp c_71
      refine rIconst (v := (nI (1))) dL_isFoughtSo_83 (by decide) ?_
      refine rGoto (tgt := 88) dL_isFoughtSo_84 (by decide) ?_
      exact sIret dL_isFoughtSo_88 rfl rfl (Nat.le_of_ble_eq_true rfl) (Nat.le_of_ble_eq_true rfl) ⟨_, rfl, rfl, p7, g7⟩
    · have c_71 : ¬ (0 < ((pBrd (hY h q)).length)) := fun h => c_71 ((nz_gt (by omega)).mpr h)
      have z1 : (pBrd (hY h q)).length = 0 := by omega
      refine rIload_n dL_isFoughtSo_74 rfl ?_
      refine rAload_n dL_isFoughtSo_75 rfl ?_
      refine rIload_n dL_isFoughtSo_76 rfl ?_
      refine sCallSi (M' := mL_board) (rm' := rmD 10 45 270) (As := [.ref (ad V o), .int (nI p)]) (rest := [.int (nI (livA (pBrd (hY h p)) (pBrd (hY h q))) - nI (livB (pBrd (hY h p)) (pBrd (hY h q))))]) dL_isFoughtSo_77 rfl mk_L_board ms_L_board ll_L_80 ⟨(Nat.le_of_ble_eq_true rfl), (Nat.le_of_ble_eq_true rfl)⟩ rfl (Nat.le_of_ble_eq_true rfl) (Nat.le_of_ble_eq_true rfl) (c_L_board ho p7 hg hfl hp) rfl (Nat.le_of_ble_eq_true rfl) (fun v s8 hv => ?_)
      obtain ⟨rfl, p8, f8⟩ := hv
      have g8 := hFr.trans g7 f8
      refine RW.widen (k := 288) (n := 1728) (Nat.le_of_ble_eq_true rfl) (Nat.le_of_ble_eq_true rfl) ?_
      show RW G _ _ _ _ 80 [some (.ref (ad V o)), some (.int (nI p)), some (.int (nI q)), some (.int (nI (livA (pBrd (hY h p)) (pBrd (hY h q))) - nI (livB (pBrd (hY h p)) (pBrd (hY h q))))), some (.int (nI 1))] [.int (nI ((pBrd (hY h p)).length)), .int (nI (livA (pBrd (hY h p)) (pBrd (hY h q))) - nI (livB (pBrd (hY h p)) (pBrd (hY h q))))] _ _ _
      refine r_icmp_ne (tgt := 87) dL_isFoughtSo_80 (by decide) (fun c => absurd (by rw [(h1 z1).1, (h1 z1).2]; exact d_1 _ (by omega)) c) (fun c => ?_)
      refine rIconst (v := (nI (1))) dL_isFoughtSo_83 (by decide) ?_
      refine rGoto (tgt := 88) dL_isFoughtSo_84 (by decide) ?_
      exact sIret dL_isFoughtSo_88 rfl rfl (Nat.le_of_ble_eq_true rfl) (Nat.le_of_ble_eq_true rfl) ⟨_, rfl, rfl, p8, g8⟩
