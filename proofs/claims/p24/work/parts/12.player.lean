set_option maxRecDepth 100000 in
set_option maxHeartbeats 4000000 in
theorem c_X2_addGold {G : gG} {V : wV} {lo : Nat → Int64} {P : Nat} {x : plT} (hP : plAt V P) {s : sgT} (h : plIs s P x) (ho : plOk x) {d : Nat} (hd : d < 2 ^ 30) : CSv G V mX2_addGold cX2_addGold (rmD 1 0 0) [.ref (ad V P), .int (nI d)] s lo (fun s' => plIs s' P (min 100 (pGold x + d), x.2) ∧ (∀ b, b ≠ P → s' b = s b)) (fun _ => False) := by
  refine CSv.of (L := [some (.ref (ad V P)), some (.int (nI d))]) rfl (by decide +kernel) rfl (Nat.le_of_ble_eq_true rfl) rfl ?_
  obtain ⟨o1, o2, o3, o4, o5, o6, o7, o8, o9⟩ := id ho
  refine rAload_n dX2_addGold_0 rfl ?_
  refine rBipush (v := (nI (100))) dX2_addGold_1 (by decide) ?_
  refine rAload_n dX2_addGold_3 rfl ?_
  refine sGetI (x := (nI (pGold x))) dX2_addGold_4 fl_X2_9 hP.1 (by decide) rfl (by rw [h.1]) ?_
  refine rIload_n dX2_addGold_7 rfl ?_
  refine nIadd dX2_addGold_8 ?_
  refine rMin dX2_addGold_9 lm_X2_37 wd_ms wd_mi wd_mc (Nat.le_of_ble_eq_true rfl) (Nat.le_of_ble_eq_true rfl) (Nat.le_of_ble_eq_true rfl) (Nat.le_of_ble_eq_true rfl) ?_
  refine tTop (w := (nI (min 100 ((pGold x) + d)))) (minI (by omega) (by omega)) ?_
  refine sPutI dX2_addGold_12 fl_X2_9 ft_X2 rfl hP.1 (by decide) rfl rfl rfl ?_
  exact sVret dX2_addGold_15 rfl (Nat.le_of_ble_eq_true rfl) (Nat.le_of_ble_eq_true rfl) ⟨rfl, ⟨plIs_P h (fun b hb => sw_a hb) sw_s (by rw [sw_i (by decide)]; exact h.2.1) (by rw [sw_i (by decide)]; exact h.2.2.1) (by rw [sw_i (by decide)]; exact h.2.2.2.1) (by rw [sw_i (by decide)]; exact h.2.2.2.2.1), fun b hb => sw_a hb⟩⟩
set_option maxRecDepth 100000 in
set_option maxHeartbeats 4000000 in
theorem c_X2_earn {G : gG} {V : wV} {lo : Nat → Int64} {P : Nat} {x : plT} (hP : plAt V P) {s : sgT} (h : plIs s P x) (ho : plOk x) : CSv G V mX2_earn cX2_earn (rmD 2 0 0) [.ref (ad V P)] s lo (fun s' => plIs s' P (earnG (pGold x) (stkB (pStk x)), x.2) ∧ (∀ b, b ≠ P → s' b = s b)) (fun _ => False) := by
  refine CSv.of (L := [some (.ref (ad V P)), none, none]) rfl (by decide +kernel) rfl (Nat.le_of_ble_eq_true rfl) rfl ?_
  obtain ⟨o1, o2, o3, o4, o5, o6, o7, o8, o9⟩ := id ho
  refine rIconst (v := (nI (3))) dX2_earn_0 (by decide) ?_
  refine rAload_n dX2_earn_1 rfl ?_
  refine sGetI (x := (nI (pGold x))) dX2_earn_2 fl_X2_9 hP.1 (by decide) rfl (by rw [h.1]) ?_
  refine rBipush (v := (nI (10))) dX2_earn_5 (by decide) ?_
  refine nIdiv dX2_earn_7 (by omega) (by decide) (by decide) ?_
  refine rMin dX2_earn_8 lm_X2_37 wd_ms wd_mi wd_mc (Nat.le_of_ble_eq_true rfl) (Nat.le_of_ble_eq_true rfl) (Nat.le_of_ble_eq_true rfl) (Nat.le_of_ble_eq_true rfl) ?_
  refine tTop (w := (nI (min 3 ((pGold x) / 10)))) (minI (by omega) (by omega)) ?_
  refine rIstore_n dX2_earn_11 (by decide) ?_
  refine rAload_n dX2_earn_12 rfl ?_
  refine sGetI (x := (pStk x)) dX2_earn_13 fl_X2_43 hP.1 (by decide) rfl (by rw [h.2.2.2.1]) ?_
  refine rIconst (v := (nI (1))) dX2_earn_16 (by decide) ?_
  refine r_icmp_gt (tgt := 28) dX2_earn_17 (by decide) (fun c_17 => ?_) (fun c_17 => ?_)
  · refine rIconst (v := (nI (1))) dX2_earn_28 (by decide) ?_
    refine rGoto (tgt := 33) dX2_earn_29 (by decide) ?_
    refine rIstore_n dX2_earn_33 (by decide) ?_
    refine rAload_n dX2_earn_34 rfl ?_
    refine rIconst (v := (nI (3))) dX2_earn_35 (by decide) ?_
    refine rIload_n dX2_earn_36 rfl ?_
    refine nIadd dX2_earn_37 ?_
    refine rIload_n dX2_earn_38 rfl ?_
    refine nIadd dX2_earn_39 ?_
    refine sCallVv (M' := mX2_addGold) (rm' := rmD 1 0 0) (As := [.int (nI ((3 + (min 3 ((pGold x) / 10))) + 1))]) (rest := []) dX2_earn_40 rfl mk_X2_addGold mi_X2_addGold ll_X2_46 ⟨(Nat.le_of_ble_eq_true rfl), (Nat.le_of_ble_eq_true rfl)⟩ hP.1 (by decide) rfl rfl (Nat.le_of_ble_eq_true rfl) (Nat.le_of_ble_eq_true rfl) (c_X2_addGold hP h ho (by omega)) rfl (Nat.le_of_ble_eq_true rfl) (fun s1 hz => ?_)
    have e : stkB (pStk x) = 1 := if_pos (Or.inl c_17)
    rw [e]
    exact sVret dX2_earn_43 rfl (Nat.le_of_ble_eq_true rfl) (Nat.le_of_ble_eq_true rfl) ⟨rfl, hz⟩
  · refine rAload_n dX2_earn_20 rfl ?_
    refine sGetI (x := (pStk x)) dX2_earn_21 fl_X2_43 hP.1 (by decide) rfl (by rw [h.2.2.2.1]) ?_
    refine rIconst (v := (-1)) dX2_earn_24 (by decide) ?_
    refine r_icmp_ge (tgt := 32) dX2_earn_25 (by decide) (fun c_25 => ?_) (fun c_25 => ?_)
    · refine rIconst (v := (nI (0))) dX2_earn_32 (by decide) ?_
      refine rIstore_n dX2_earn_33 (by decide) ?_
      refine rAload_n dX2_earn_34 rfl ?_
      refine rIconst (v := (nI (3))) dX2_earn_35 (by decide) ?_
      refine rIload_n dX2_earn_36 rfl ?_
      refine nIadd dX2_earn_37 ?_
      refine rIload_n dX2_earn_38 rfl ?_
      refine nIadd dX2_earn_39 ?_
      refine sCallVv (M' := mX2_addGold) (rm' := rmD 1 0 0) (As := [.int (nI ((3 + (min 3 ((pGold x) / 10))) + 0))]) (rest := []) dX2_earn_40 rfl mk_X2_addGold mi_X2_addGold ll_X2_46 ⟨(Nat.le_of_ble_eq_true rfl), (Nat.le_of_ble_eq_true rfl)⟩ hP.1 (by decide) rfl rfl (Nat.le_of_ble_eq_true rfl) (Nat.le_of_ble_eq_true rfl) (c_X2_addGold hP h ho (by omega)) rfl (Nat.le_of_ble_eq_true rfl) (fun s1 hz => ?_)
      have e : stkB (pStk x) = 0 := if_neg (fun z => z.elim c_17 (fun y => y c_25))
      rw [e]
      exact sVret dX2_earn_43 rfl (Nat.le_of_ble_eq_true rfl) (Nat.le_of_ble_eq_true rfl) ⟨rfl, hz⟩
    · refine rIconst (v := (nI (1))) dX2_earn_28 (by decide) ?_
      refine rGoto (tgt := 33) dX2_earn_29 (by decide) ?_
      refine rIstore_n dX2_earn_33 (by decide) ?_
      refine rAload_n dX2_earn_34 rfl ?_
      refine rIconst (v := (nI (3))) dX2_earn_35 (by decide) ?_
      refine rIload_n dX2_earn_36 rfl ?_
      refine nIadd dX2_earn_37 ?_
      refine rIload_n dX2_earn_38 rfl ?_
      refine nIadd dX2_earn_39 ?_
      refine sCallVv (M' := mX2_addGold) (rm' := rmD 1 0 0) (As := [.int (nI ((3 + (min 3 ((pGold x) / 10))) + 1))]) (rest := []) dX2_earn_40 rfl mk_X2_addGold mi_X2_addGold ll_X2_46 ⟨(Nat.le_of_ble_eq_true rfl), (Nat.le_of_ble_eq_true rfl)⟩ hP.1 (by decide) rfl rfl (Nat.le_of_ble_eq_true rfl) (Nat.le_of_ble_eq_true rfl) (c_X2_addGold hP h ho (by omega)) rfl (Nat.le_of_ble_eq_true rfl) (fun s1 hz => ?_)
      have e : stkB (pStk x) = 1 := if_pos (Or.inr c_25)
      rw [e]
      exact sVret dX2_earn_43 rfl (Nat.le_of_ble_eq_true rfl) (Nat.le_of_ble_eq_true rfl) ⟨rfl, hz⟩
set_option maxRecDepth 100000 in
set_option maxHeartbeats 4000000 in
theorem c_X2_win {G : gG} {V : wV} {lo : Nat → Int64} {P : Nat} {x : plT} (hP : plAt V P) {s : sgT} (h : plIs s P x) (ho : plOk x) : CSv G V mX2_win cX2_win (rmD 1 0 0) [.ref (ad V P)] s lo (fun s' => plIs s' P (pGold x, pLev x, pHth x, stkW (pStk x), x.2.2.2.2) ∧ (∀ b, b ≠ P → s' b = s b)) (fun _ => False) := by
  refine CSv.of (L := [some (.ref (ad V P))]) rfl (by decide +kernel) rfl (Nat.le_of_ble_eq_true rfl) rfl ?_
  obtain ⟨o1, o2, o3, o4, o5, o6, o7, o8, o9⟩ := id ho
  refine rAload_n dX2_win_0 rfl ?_
  refine rAload_n dX2_win_1 rfl ?_
  refine sGetI (x := (pStk x)) dX2_win_2 fl_X2_43 hP.1 (by decide) rfl (by rw [h.2.2.2.1]) ?_
  refine r_if_le (tgt := 17) dX2_win_5 (by decide) (fun c_5 => ?_) (fun c_5 => ?_)
  · refine rIconst (v := (nI (1))) dX2_win_17 (by decide) ?_
    refine sPutI dX2_win_18 fl_X2_43 ft_X2 rfl hP.1 (by decide) rfl rfl rfl ?_
    exact sVret dX2_win_21 rfl (Nat.le_of_ble_eq_true rfl) (Nat.le_of_ble_eq_true rfl) ⟨rfl, ⟨plIs_P h (fun b hb => sw_a hb) (by rw [sw_i (by decide)]; exact h.1) (by rw [sw_i (by decide)]; exact h.2.1) (by rw [sw_i (by decide)]; exact h.2.2.1) (by rw [sw_s]; exact (if_pos c_5).symm) (by rw [sw_i (by decide)]; exact h.2.2.2.2.1), fun b hb => sw_a hb⟩⟩
  · refine rAload_n dX2_win_8 rfl ?_
    refine sGetI (x := (pStk x)) dX2_win_9 fl_X2_43 hP.1 (by decide) rfl (by rw [h.2.2.2.1]) ?_
    refine rIconst (v := (nI (1))) dX2_win_12 (by decide) ?_
    refine rIadd dX2_win_13 ?_
    refine rGoto (tgt := 18) dX2_win_14 (by decide) ?_
    refine sPutI dX2_win_18 fl_X2_43 ft_X2 rfl hP.1 (by decide) rfl rfl rfl ?_
    exact sVret dX2_win_21 rfl (Nat.le_of_ble_eq_true rfl) (Nat.le_of_ble_eq_true rfl) ⟨rfl, ⟨plIs_P h (fun b hb => sw_a hb) (by rw [sw_i (by decide)]; exact h.1) (by rw [sw_i (by decide)]; exact h.2.1) (by rw [sw_i (by decide)]; exact h.2.2.1) (by rw [sw_s]; exact (if_neg c_5).symm) (by rw [sw_i (by decide)]; exact h.2.2.2.2.1), fun b hb => sw_a hb⟩⟩
set_option maxRecDepth 100000 in
set_option maxHeartbeats 4000000 in
theorem c_X2_lose {G : gG} {V : wV} {lo : Nat → Int64} {P : Nat} {x : plT} (hP : plAt V P) {s : sgT} (h : plIs s P x) (ho : plOk x) {d : Nat} (hd : d < 2 ^ 30) : CSv G V mX2_lose cX2_lose (rmD 1 0 0) [.ref (ad V P), .int (nI d)] s lo (fun s' => plIs s' P (pGold x, pLev x, pHth x - min d (pHth x), stkL (pStk x), x.2.2.2.2) ∧ (∀ b, b ≠ P → s' b = s b)) (fun _ => False) := by
  refine CSv.of (L := [some (.ref (ad V P)), some (.int (nI d))]) rfl (by decide +kernel) rfl (Nat.le_of_ble_eq_true rfl) rfl ?_
  obtain ⟨o1, o2, o3, o4, o5, o6, o7, o8, o9⟩ := id ho
  refine rAload_n dX2_lose_0 rfl ?_
  refine rAload_n dX2_lose_1 rfl ?_
  refine sGetI (x := (pStk x)) dX2_lose_2 fl_X2_43 hP.1 (by decide) rfl (by rw [h.2.2.2.1]) ?_
  refine r_if_ge (tgt := 17) dX2_lose_5 (by decide) (fun c_5 => ?_) (fun c_5 => ?_)
  · refine rIconst (v := (-1)) dX2_lose_17 (by decide) ?_
    refine sPutI dX2_lose_18 fl_X2_43 ft_X2 rfl hP.1 (by decide) rfl rfl rfl ?_
    refine rAload_n dX2_lose_21 rfl ?_
    refine rDup dX2_lose_22 rfl ?_
    refine sGetI (x := (nI (pHth x))) dX2_lose_23 fl_X2_18 hP.1 (by decide) rfl (by rw [sw_i (by decide), h.2.2.1]) ?_
    refine rIload_n dX2_lose_26 rfl ?_
    refine rAload_n dX2_lose_27 rfl ?_
    refine sGetI (x := (nI (pHth x))) dX2_lose_28 fl_X2_18 hP.1 (by decide) rfl (by rw [sw_i (by decide), h.2.2.1]) ?_
    refine rMin dX2_lose_31 lm_X2_37 wd_ms wd_mi wd_mc (Nat.le_of_ble_eq_true rfl) (Nat.le_of_ble_eq_true rfl) (Nat.le_of_ble_eq_true rfl) (Nat.le_of_ble_eq_true rfl) ?_
    refine tTop (w := (nI (min d (pHth x)))) (minI (by omega) (by omega)) ?_
    refine nIsub dX2_lose_34 (by omega) ?_
    refine sPutI dX2_lose_35 fl_X2_18 ft_X2 rfl hP.1 (by decide) rfl rfl rfl ?_
    exact sVret dX2_lose_38 rfl (Nat.le_of_ble_eq_true rfl) (Nat.le_of_ble_eq_true rfl) ⟨rfl, ⟨plIs_P h (fun b hb => by rw [sw_a hb, sw_a hb]) (by rw [sw_i (by decide), sw_i (by decide)]; exact h.1) (by rw [sw_i (by decide), sw_i (by decide)]; exact h.2.1) sw_s (by rw [sw_i (by decide), sw_s]; exact (if_pos c_5).symm) (by rw [sw_i (by decide), sw_i (by decide)]; exact h.2.2.2.2.1), fun b hb => (by rw [sw_a hb, sw_a hb])⟩⟩
  · refine rAload_n dX2_lose_8 rfl ?_
    refine sGetI (x := (pStk x)) dX2_lose_9 fl_X2_43 hP.1 (by decide) rfl (by rw [h.2.2.2.1]) ?_
    refine rIconst (v := (nI (1))) dX2_lose_12 (by decide) ?_
    refine rIsub dX2_lose_13 ?_
    refine rGoto (tgt := 18) dX2_lose_14 (by decide) ?_
    refine sPutI dX2_lose_18 fl_X2_43 ft_X2 rfl hP.1 (by decide) rfl rfl rfl ?_
    refine rAload_n dX2_lose_21 rfl ?_
    refine rDup dX2_lose_22 rfl ?_
    refine sGetI (x := (nI (pHth x))) dX2_lose_23 fl_X2_18 hP.1 (by decide) rfl (by rw [sw_i (by decide), h.2.2.1]) ?_
    refine rIload_n dX2_lose_26 rfl ?_
    refine rAload_n dX2_lose_27 rfl ?_
    refine sGetI (x := (nI (pHth x))) dX2_lose_28 fl_X2_18 hP.1 (by decide) rfl (by rw [sw_i (by decide), h.2.2.1]) ?_
    refine rMin dX2_lose_31 lm_X2_37 wd_ms wd_mi wd_mc (Nat.le_of_ble_eq_true rfl) (Nat.le_of_ble_eq_true rfl) (Nat.le_of_ble_eq_true rfl) (Nat.le_of_ble_eq_true rfl) ?_
    refine tTop (w := (nI (min d (pHth x)))) (minI (by omega) (by omega)) ?_
    refine nIsub dX2_lose_34 (by omega) ?_
    refine sPutI dX2_lose_35 fl_X2_18 ft_X2 rfl hP.1 (by decide) rfl rfl rfl ?_
    exact sVret dX2_lose_38 rfl (Nat.le_of_ble_eq_true rfl) (Nat.le_of_ble_eq_true rfl) ⟨rfl, ⟨plIs_P h (fun b hb => by rw [sw_a hb, sw_a hb]) (by rw [sw_i (by decide), sw_i (by decide)]; exact h.1) (by rw [sw_i (by decide), sw_i (by decide)]; exact h.2.1) sw_s (by rw [sw_i (by decide), sw_s]; exact (if_neg c_5).symm) (by rw [sw_i (by decide), sw_i (by decide)]; exact h.2.2.2.2.1), fun b hb => (by rw [sw_a hb, sw_a hb])⟩⟩
set_option maxRecDepth 100000 in
set_option maxHeartbeats 4000000 in
theorem c_X2_unitsHeld {G : gG} {V : wV} {lo : Nat → Int64} {P : Nat} {x : plT} (hP : plAt V P) {s : sgT} (h : plIs s P x) (ho : plOk x) {k : Nat} (hk : k < 2 ^ 31) : CSp G V mX2_unitsHeld cX2_unitsHeld (rmD 3 0 0) [.ref (ad V P), .int (nI k)] s lo (fun v => v = nI (heldN (pBen x) k + heldN (pBrd x) k + shpN (pShp x) k 3)) (fun _ => False) := by
  refine CSp.of (L := [some (.ref (ad V P)), some (.int (nI k)), none, none]) rfl (by decide +kernel) rfl (Nat.le_of_ble_eq_true rfl) rfl ?_
  obtain ⟨o1, o2, o3, o4, o5, o6, o7, o8, o9⟩ := id ho
  refine rAload_n dX2_unitsHeld_0 rfl ?_
  refine sGetR dX2_unitsHeld_1 fl_X2_30 hP.1 (by decide) rfl ?_
  refine rIload_n dX2_unitsHeld_4 rfl ?_
  refine sCallVp (M' := mX5_unitsHeld) (rm' := rmD 2 0 0) (As := [.int (nI k)]) (rest := []) dX2_unitsHeld_5 rfl mk_X5_unitsHeld mi_X5_unitsHeld ll_X2_49 ⟨(Nat.le_of_ble_eq_true rfl), (Nat.le_of_ble_eq_true rfl)⟩ hP.2.2.1.1 (by decide) rfl rfl (Nat.le_of_ble_eq_true rfl) (Nat.le_of_ble_eq_true rfl) (c_X5_unitsHeld hP.2.2.1 (by omega) (by omega) h.2.2.2.2.2.2.1 o6 hk) rfl (Nat.le_of_ble_eq_true rfl) (fun v e => ?_)
  refine tTop (w := (nI (heldN (pBen x) k))) e ?_
  refine rAload_n dX2_unitsHeld_8 rfl ?_
  refine sGetR dX2_unitsHeld_9 fl_X2_34 hP.1 (by decide) rfl ?_
  refine rIload_n dX2_unitsHeld_12 rfl ?_
  refine sCallVp (M' := mX5_unitsHeld) (rm' := rmD 2 0 0) (As := [.int (nI k)]) (rest := [.int (nI (heldN (pBen x) k))]) dX2_unitsHeld_13 rfl mk_X5_unitsHeld mi_X5_unitsHeld ll_X2_49 ⟨(Nat.le_of_ble_eq_true rfl), (Nat.le_of_ble_eq_true rfl)⟩ hP.2.2.2.1 (by decide) rfl rfl (Nat.le_of_ble_eq_true rfl) (Nat.le_of_ble_eq_true rfl) (c_X5_unitsHeld hP.2.2.2 (by omega) (by omega) h.2.2.2.2.2.2.2 o7 hk) rfl (Nat.le_of_ble_eq_true rfl) (fun v e1 => ?_)
  refine tTop (w := (nI (heldN (pBrd x) k))) e1 ?_
  refine nIadd dX2_unitsHeld_16 ?_
  refine rIstore_n dX2_unitsHeld_17 (by decide) ?_
  refine rIconst (v := (nI (0))) dX2_unitsHeld_18 (by decide) ?_
  refine rIstore_n dX2_unitsHeld_19 (by decide) ?_
  refine loopW (σ := Unit) (3) (fun i _ => [some (.ref (ad V P)), some (.int (nI k)), some (.int (nI (heldN (pBen x) k + heldN (pBrd x) k + shpN (pShp x) k i))), some (.int (nI i))]) (fun i _ => s) (fun i _ => True) (0) () (by omega) trivial (fun i _ hi hinv ih => ?_)
  refine rIload_n dX2_unitsHeld_20 rfl ?_
  refine rIconst (v := (nI (3))) dX2_unitsHeld_21 (by decide) ?_
  refine r_icmp_ge (tgt := 44) dX2_unitsHeld_22 (by decide) (fun c_22 => ?_) (fun c_22 => ?_)
  · have c_22 : 3 ≤ i := (nI_leI (by omega) (by omega)).mp c_22
    refine rIload_n dX2_unitsHeld_44 rfl ?_
    have e : i = 3 := by omega
    subst e
    exact sIret dX2_unitsHeld_45 rfl rfl (Nat.le_of_ble_eq_true rfl) (Nat.le_of_ble_eq_true rfl) ⟨_, rfl, rfl, rfl⟩
  · have c_22 : ¬ (3 ≤ i) := fun h => c_22 ((nI_leI (by omega) (by omega)).mpr h)
    have hsp : shpN (pShp x) k (i + 1) = shpN (pShp x) k i + if pShp x i = some k then 1 else 0 := rfl
    refine rAload_n dX2_unitsHeld_25 rfl ?_
    refine sGetR dX2_unitsHeld_26 fl_X2_21 hP.1 (by decide) rfl ?_
    refine rIload_n dX2_unitsHeld_29 rfl ?_
    refine nIald (v := (shI (pShp x i))) dX2_unitsHeld_30 hP.2.1 (by omega) (by omega) (by rw [h.2.2.2.2.2.1 i (by omega)]) ?_
    refine rIload_n dX2_unitsHeld_31 rfl ?_
    refine r_icmp_ne (tgt := 38) dX2_unitsHeld_32 (by decide) (fun c_32 => ?_) (fun c_32 => ?_)
    · refine rIinc (v := (nI (i + 1))) dX2_unitsHeld_38 rfl (by first | exact nI_add _ _ | rfl) (by decide) ?_
      refine rGoto (tgt := 20) dX2_unitsHeld_41 (by decide) ?_
      rw [if_neg (fun e => c_32 ((shI_eq (fun j hj => o5 i (by omega) j hj) hk).mpr e)), Nat.add_zero] at hsp
      have hz := ih (by omega) () trivial
      rw [hsp] at hz
      exact hz
    · refine rIinc (v := (nI (heldN (pBen x) k + heldN (pBrd x) k + shpN (pShp x) k i + 1))) dX2_unitsHeld_35 rfl (by first | exact nI_add _ _ | rfl) (by decide) ?_
      refine rIinc (v := (nI (i + 1))) dX2_unitsHeld_38 rfl (by first | exact nI_add _ _ | rfl) (by decide) ?_
      refine rGoto (tgt := 20) dX2_unitsHeld_41 (by decide) ?_
      rw [if_pos ((shI_eq (fun j hj => o5 i (by omega) j hj) hk).mp c_32)] at hsp
      have hz := ih (by omega) () trivial
      rw [hsp] at hz
      exact hz
set_option maxRecDepth 100000 in
set_option maxHeartbeats 4000000 in
theorem c_X2_rowOfFirst {G : gG} {V : wV} {lo : Nat → Int64} {P : Nat} {b : bbT} (hP : plAt V P) {s : sgT} (h : bbIs s P b) (ho : bbOk b) {u k t : Nat} (hu : okU u) (hk : u / 10 = k) (ht : u % 10 = t) : CSq G V mX2_rowOfFirst cX2_rowOfFirst (rmD 2 0 0) [.ref (ad V P), .int (nI k), .int (nI t)] s lo (fun a => a = if u ∈ b.1 then P + 5 else P + 2) (fun _ => False) := by
  refine CSq.of (L := [some (.ref (ad V P)), some (.int (nI k)), some (.int (nI t))]) rfl (by decide +kernel) rfl (Nat.le_of_ble_eq_true rfl) rfl ?_
  obtain ⟨o1, o2, o3, o4⟩ := id ho
  refine rAload_n dX2_rowOfFirst_0 rfl ?_
  refine sGetR dX2_rowOfFirst_1 fl_X2_34 hP.1 (by decide) rfl ?_
  refine rIload_n dX2_rowOfFirst_4 rfl ?_
  refine rIload_n dX2_rowOfFirst_5 rfl ?_
  refine sCallVp (M' := mX5_find) (rm' := rmD 1 0 0) (As := [.int (nI k), .int (nI t)]) (rest := []) dX2_rowOfFirst_6 rfl mk_X5_find mi_X5_find ll_X2_68 ⟨(Nat.le_of_ble_eq_true rfl), (Nat.le_of_ble_eq_true rfl)⟩ hP.2.2.2.1 (by decide) rfl rfl (Nat.le_of_ble_eq_true rfl) (Nat.le_of_ble_eq_true rfl) (c_X5_find hP.2.2.2 (by omega) o3 h.1 o1 hu hk ht) rfl (Nat.le_of_ble_eq_true rfl) (fun v e => ?_)
  rcases e with ⟨e, rfl⟩ | ⟨e, rfl⟩
  · have hi := (idx_lt e).1
    refine rIconst (v := (-1)) dX2_rowOfFirst_9 (by decide) ?_
    refine r_icmp_eq (tgt := 20) dX2_rowOfFirst_10 (by decide) (fun c_10 => ?_) (fun c_10 => ?_)
    · exact absurd c_10 (nI_m1 (by omega))
    · refine rAload_n dX2_rowOfFirst_13 rfl ?_
      refine sGetR dX2_rowOfFirst_14 fl_X2_34 hP.1 (by decide) rfl ?_
      refine rGoto (tgt := 24) dX2_rowOfFirst_17 (by decide) ?_
      exact sAret dX2_rowOfFirst_24 rfl (Nat.le_of_ble_eq_true rfl) (Nat.le_of_ble_eq_true rfl) ⟨_, rfl, rfl, (if_pos e).symm⟩
  · refine rIconst (v := (-1)) dX2_rowOfFirst_9 (by decide) ?_
    refine r_icmp_eq (tgt := 20) dX2_rowOfFirst_10 (by decide) (fun c_10 => ?_) (fun c_10 => ?_)
    · refine rAload_n dX2_rowOfFirst_20 rfl ?_
      refine sGetR dX2_rowOfFirst_21 fl_X2_30 hP.1 (by decide) rfl ?_
      exact sAret dX2_rowOfFirst_24 rfl (Nat.le_of_ble_eq_true rfl) (Nat.le_of_ble_eq_true rfl) ⟨_, rfl, rfl, (if_neg e).symm⟩
    · exact absurd rfl c_10
set_option maxRecDepth 100000 in
set_option maxHeartbeats 4000000 in
theorem c_X2_mergeThree {G : gG} {V : wV} {lo : Nat → Int64} {P : Nat} {b : bbT} (hP : plAt V P) {s : sgT} (h : bbIs s P b) (ho : bbOk b) {u k t : Nat} (hu : okU u) (hk : u / 10 = k) (ht : u % 10 = t) (hu1 : okU (u + 1)) (hc : 3 ≤ cntU b u) : CSv G V mX2_mergeThree cX2_mergeThree (rmD 3 0 0) [.ref (ad V P), .int (nI k), .int (nI t)] s lo (fun s' => bbIs s' P (merU b u) ∧ bbFr s s' P) (fun _ => False) := by
  refine CSv.of (L := [some (.ref (ad V P)), some (.int (nI k)), some (.int (nI t)), none, none, none, none]) rfl (by decide +kernel) rfl (Nat.le_of_ble_eq_true rfl) rfl ?_
  obtain ⟨o1, o2, o3, o4⟩ := id ho
  obtain ⟨r1, r2, r3⟩ := cnt_rep (b := b) (u := u) (by omega)
  obtain ⟨q1, q2⟩ := ok_rep o1 o2 hu1
  obtain ⟨y1, y2, y3⟩ := id hu
  obtain ⟨z1, z2, z3⟩ := id hu1
  refine rAload_n dX2_mergeThree_0 rfl ?_
  refine rIload_n dX2_mergeThree_1 rfl ?_
  refine rIload_n dX2_mergeThree_2 rfl ?_
  refine sCallVq (M' := mX2_rowOfFirst) (rm' := rmD 2 0 0) (As := [.int (nI k), .int (nI t)]) (rest := []) dX2_mergeThree_3 rfl mk_X2_rowOfFirst mi_X2_rowOfFirst ll_X2_64 ⟨(Nat.le_of_ble_eq_true rfl), (Nat.le_of_ble_eq_true rfl)⟩ hP.1 (by decide) rfl rfl (Nat.le_of_ble_eq_true rfl) (Nat.le_of_ble_eq_true rfl) (c_X2_rowOfFirst hP h ho hu hk ht) rfl (Nat.le_of_ble_eq_true rfl) (fun a ea => ?_)
  by_cases hm : u ∈ b.1
  · rw [if_pos hm] at ea
    subst ea
    obtain ⟨i1, i2⟩ := idx_lt hm
    refine rAstore_n dX2_mergeThree_6 (by decide) ?_
    refine rAload_n dX2_mergeThree_7 rfl ?_
    refine rIload_n dX2_mergeThree_8 rfl ?_
    refine rIload_n dX2_mergeThree_9 rfl ?_
    refine sCallVp (M' := mX5_find) (rm' := rmD 1 0 0) (As := [.int (nI k), .int (nI t)]) (rest := []) dX2_mergeThree_10 rfl mk_X5_find mi_X5_find ll_X2_68 ⟨(Nat.le_of_ble_eq_true rfl), (Nat.le_of_ble_eq_true rfl)⟩ hP.2.2.2.1 (by decide) rfl rfl (Nat.le_of_ble_eq_true rfl) (Nat.le_of_ble_eq_true rfl) (c_X5_find hP.2.2.2 (by omega) (by omega) h.1 o1 hu hk ht) rfl (Nat.le_of_ble_eq_true rfl) (fun v e => ?_)
    rcases e with ⟨-, rfl⟩ | ⟨e, -⟩
    · refine rIstore dX2_mergeThree_13 (by decide) ?_
      refine rIload dX2_mergeThree_15 rfl ?_
      refine rIconst (v := (-1)) dX2_mergeThree_17 (by decide) ?_
      refine r_icmp_eq (tgt := 32) dX2_mergeThree_18 (by decide) (fun c_18 => ?_) (fun c_18 => ?_)
      · exact absurd c_18 (nI_m1 (by omega))
      · refine rAload_n dX2_mergeThree_21 rfl ?_
        refine sGetR dX2_mergeThree_22 fl_X2_71 hP.2.2.2.1 (by decide) rfl ?_
        refine rIload dX2_mergeThree_25 rfl ?_
        refine rDup2 dX2_mergeThree_27 rfl rfl ?_
        refine nIald (v := (nI (t))) dX2_mergeThree_28 hP.2.2.2.2.2 (by omega) (by omega) (by rw [(h.1.2 _ (by omega)).2, i2, ht]) ?_
        refine rIconst (v := (nI (1))) dX2_mergeThree_29 (by decide) ?_
        refine nIadd dX2_mergeThree_30 ?_
        refine nIast dX2_mergeThree_31 hP.2.2.2.2.2 (by omega) (by omega) ?_
        refine rIconst (v := (nI (0))) dX2_mergeThree_32 (by decide) ?_
        refine rIstore dX2_mergeThree_33 (by decide) ?_
        obtain ⟨b0, hb0⟩ : ∃ z, z = repU b u := ⟨_, rfl⟩
        have hb1 : b0 = (b.1.set (b.1.idxOf u) (u + 1), b.2) := by rw [hb0]; exact if_pos hm
        have hbb : bbIs (sw s (P + 5 + 2) (b.1.idxOf u) (nI (t + 1))) P b0 := by
          rw [hb1]
          exact ⟨⟨by rw [sw_a (by omega), List.length_set]; exact h.1.1, fun i hi => (by
                    rw [List.length_set] at hi
                    have hi' := h.1.2 i hi
                    rw [set_get i1, sw_a (by omega)]
                    by_cases e : i = b.1.idxOf u
                    · subst e
                      rw [if_pos rfl, sw_s, hi'.1, i2]
                      exact ⟨congrArg nI (by omega), congrArg nI (by omega)⟩
                    · rw [if_neg e, sw_i e]
                      exact hi')⟩, rowIs_keep h.2 (sw_a (by omega)) (sw_a (by omega)) (sw_a (by omega))⟩
        rw [← hb0] at r1 r2 r3 q1 q2
        refine loopW (σ := sgT) (2) (fun i y => [some (.ref (ad V P)), some (.int (nI k)), some (.int (nI t)), some (.ref (ad V (P + 5))), some (.int (nI (b.1.idxOf u))), some (.int (nI i)), none]) (fun i y => y) (fun i y => bbIs y P (eraN u i b0) ∧ bbFr s y P ∧ bbOk (eraN u i b0) ∧ 2 ≤ cntU (eraN u i b0) u + i) (0) (sw s (P + 5 + 2) (b.1.idxOf u) (nI (t + 1))) (by omega) ⟨hbb, fun a ha => sw_a (by omega), ⟨q1, q2, by show b0.1.length ≤ 5; omega, by show b0.2.length ≤ 6; omega⟩, by show 2 ≤ cntU b0 u + 0; omega⟩ (fun i y hi hinv ih => ?_)
        obtain ⟨v1, v2, v3, v4⟩ := hinv
        obtain ⟨c, hc0⟩ : ∃ z, z = eraN u i b0 := ⟨_, rfl⟩
        rw [← hc0] at v1 v3 v4
        refine rIload dX2_mergeThree_35 rfl ?_
        refine rIconst (v := (nI (2))) dX2_mergeThree_37 (by decide) ?_
        refine r_icmp_ge (tgt := 67) dX2_mergeThree_38 (by decide) (fun c_38 => ?_) (fun c_38 => ?_)
        · have c_38 : 2 ≤ i := (nI_leI (by omega) (by omega)).mp c_38
          have e : i = 2 := by omega
          subst e
          rw [hc0, hb0] at v1
          exact sVret dX2_mergeThree_67 rfl (Nat.le_of_ble_eq_true rfl) (Nat.le_of_ble_eq_true rfl) ⟨rfl, ⟨v1, v2⟩⟩
        · have c_38 : ¬ (2 ≤ i) := fun h => c_38 ((nI_leI (by omega) (by omega)).mpr h)
          obtain ⟨o1, o2, o3, o4⟩ := id v3
          obtain ⟨w1, w2, w3, w4⟩ := cnt_era (b := c) (u := u) (by omega)
          obtain ⟨w5, w6⟩ := ok_era (u := u) o1 o2
          refine rAload_n dX2_mergeThree_41 rfl ?_
          refine rIload_n dX2_mergeThree_42 rfl ?_
          refine rIload_n dX2_mergeThree_43 rfl ?_
          refine sCallVq (M' := mX2_rowOfFirst) (rm' := rmD 2 0 0) (As := [.int (nI k), .int (nI t)]) (rest := []) dX2_mergeThree_44 rfl mk_X2_rowOfFirst mi_X2_rowOfFirst ll_X2_64 ⟨(Nat.le_of_ble_eq_true rfl), (Nat.le_of_ble_eq_true rfl)⟩ hP.1 (by decide) rfl rfl (Nat.le_of_ble_eq_true rfl) (Nat.le_of_ble_eq_true rfl) (c_X2_rowOfFirst hP v1 v3 hu hk ht) rfl (Nat.le_of_ble_eq_true rfl) (fun a ea => ?_)
          by_cases hm3 : u ∈ c.1
          · rw [if_pos hm3] at ea
            subst ea
            obtain ⟨j1, j2⟩ := idx_lt hm3
            refine rAstore dX2_mergeThree_47 (by decide) ?_
            refine rAload dX2_mergeThree_49 rfl ?_
            refine rAload dX2_mergeThree_51 rfl ?_
            refine rIload_n dX2_mergeThree_53 rfl ?_
            refine rIload_n dX2_mergeThree_54 rfl ?_
            refine sCallVp (M' := mX5_find) (rm' := rmD 1 0 0) (As := [.int (nI k), .int (nI t)]) (rest := [.ref (ad V (P + 5))]) dX2_mergeThree_55 rfl mk_X5_find mi_X5_find ll_X2_68 ⟨(Nat.le_of_ble_eq_true rfl), (Nat.le_of_ble_eq_true rfl)⟩ hP.2.2.2.1 (by decide) rfl rfl (Nat.le_of_ble_eq_true rfl) (Nat.le_of_ble_eq_true rfl) (c_X5_find hP.2.2.2 (by omega) (by omega) v1.1 o1 hu hk ht) rfl (Nat.le_of_ble_eq_true rfl) (fun v e => ?_)
            rcases e with ⟨-, rfl⟩ | ⟨e, -⟩
            · refine sCallVv (M' := mX5_removeAt) (rm' := rmD 2 0 0) (As := [.int (nI (c.1.idxOf u))]) (rest := []) dX2_mergeThree_58 rfl mk_X5_removeAt mi_X5_removeAt ll_X2_74 ⟨(Nat.le_of_ble_eq_true rfl), (Nat.le_of_ble_eq_true rfl)⟩ hP.2.2.2.1 (by decide) rfl rfl (Nat.le_of_ble_eq_true rfl) (Nat.le_of_ble_eq_true rfl) (c_X5_removeAt hP.2.2.2 (by omega) (by omega) v1.1 o1 j1) rfl (Nat.le_of_ble_eq_true rfl) (fun s1 hz => ?_)
              obtain ⟨hz1, hz2⟩ := hz
              refine rIinc (v := (nI (i + 1))) dX2_mergeThree_61 rfl (by first | exact nI_add _ _ | rfl) (by decide) ?_
              refine rGoto (tgt := 35) dX2_mergeThree_64 (by decide) ?_
              refine rForget (L := [some (.ref (ad V P)), some (.int (nI k)), some (.int (nI t)), some (.ref (ad V (P + 5))), some (.int (nI (b.1.idxOf u))), some (.int (nI (i + 1))), some (.ref (ad V (P + 5)))]) (L' := [some (.ref (ad V P)), some (.int (nI k)), some (.int (nI t)), some (.ref (ad V (P + 5))), some (.int (nI (b.1.idxOf u))), some (.int (nI (i + 1))), none]) (by exact ⟨rfl, ⟨rfl, ⟨rfl, ⟨rfl, ⟨rfl, ⟨rfl, trivial⟩⟩⟩⟩⟩⟩) ?_
              have e9 : eraN u (i + 1) b0 = (c.1.eraseIdx (c.1.idxOf u), c.2) := by
                show eraU (eraN u i b0) u = _
                rw [← hc0]
                exact if_pos hm3
              have e8 : eraN u (i + 1) b0 = eraU c u := by rw [hc0]; rfl
              exact ih (by omega) s1 ⟨by rw [e9]; exact ⟨hz1, rowIs_keep v1.2 (hz2 _ (by omega) (by omega) (by omega)) (hz2 _ (by omega) (by omega) (by omega)) (hz2 _ (by omega) (by omega) (by omega))⟩, fun a ha => (hz2 a (by omega) (by omega) (by omega)).trans (v2 a ha), by rw [e8]; exact ⟨w5, w6, by omega, by omega⟩, by rw [e8]; omega⟩
            · exact absurd hm3 e
          · rw [if_neg hm3] at ea
            subst ea
            have hm4 := cnt_pos (show 0 < cntU c u by omega) hm3
            obtain ⟨j1, j2⟩ := idx_lt hm4
            refine rAstore dX2_mergeThree_47 (by decide) ?_
            refine rAload dX2_mergeThree_49 rfl ?_
            refine rAload dX2_mergeThree_51 rfl ?_
            refine rIload_n dX2_mergeThree_53 rfl ?_
            refine rIload_n dX2_mergeThree_54 rfl ?_
            refine sCallVp (M' := mX5_find) (rm' := rmD 1 0 0) (As := [.int (nI k), .int (nI t)]) (rest := [.ref (ad V (P + 2))]) dX2_mergeThree_55 rfl mk_X5_find mi_X5_find ll_X2_68 ⟨(Nat.le_of_ble_eq_true rfl), (Nat.le_of_ble_eq_true rfl)⟩ hP.2.2.1.1 (by decide) rfl rfl (Nat.le_of_ble_eq_true rfl) (Nat.le_of_ble_eq_true rfl) (c_X5_find hP.2.2.1 (by omega) (by omega) v1.2 o2 hu hk ht) rfl (Nat.le_of_ble_eq_true rfl) (fun v e => ?_)
            rcases e with ⟨-, rfl⟩ | ⟨e, -⟩
            · refine sCallVv (M' := mX5_removeAt) (rm' := rmD 2 0 0) (As := [.int (nI (c.2.idxOf u))]) (rest := []) dX2_mergeThree_58 rfl mk_X5_removeAt mi_X5_removeAt ll_X2_74 ⟨(Nat.le_of_ble_eq_true rfl), (Nat.le_of_ble_eq_true rfl)⟩ hP.2.2.1.1 (by decide) rfl rfl (Nat.le_of_ble_eq_true rfl) (Nat.le_of_ble_eq_true rfl) (c_X5_removeAt hP.2.2.1 (by omega) (by omega) v1.2 o2 j1) rfl (Nat.le_of_ble_eq_true rfl) (fun s1 hz => ?_)
              obtain ⟨hz1, hz2⟩ := hz
              refine rIinc (v := (nI (i + 1))) dX2_mergeThree_61 rfl (by first | exact nI_add _ _ | rfl) (by decide) ?_
              refine rGoto (tgt := 35) dX2_mergeThree_64 (by decide) ?_
              refine rForget (L := [some (.ref (ad V P)), some (.int (nI k)), some (.int (nI t)), some (.ref (ad V (P + 5))), some (.int (nI (b.1.idxOf u))), some (.int (nI (i + 1))), some (.ref (ad V (P + 2)))]) (L' := [some (.ref (ad V P)), some (.int (nI k)), some (.int (nI t)), some (.ref (ad V (P + 5))), some (.int (nI (b.1.idxOf u))), some (.int (nI (i + 1))), none]) (by exact ⟨rfl, ⟨rfl, ⟨rfl, ⟨rfl, ⟨rfl, ⟨rfl, trivial⟩⟩⟩⟩⟩⟩) ?_
              have e9 : eraN u (i + 1) b0 = (c.1, c.2.eraseIdx (c.2.idxOf u)) := by
                show eraU (eraN u i b0) u = _
                rw [← hc0]
                exact if_neg hm3
              have e8 : eraN u (i + 1) b0 = eraU c u := by rw [hc0]; rfl
              exact ih (by omega) s1 ⟨by rw [e9]; exact ⟨rowIs_keep v1.1 (hz2 _ (by omega) (by omega) (by omega)) (hz2 _ (by omega) (by omega) (by omega)) (hz2 _ (by omega) (by omega) (by omega)), hz1⟩, fun a ha => (hz2 a (by omega) (by omega) (by omega)).trans (v2 a ha), by rw [e8]; exact ⟨w5, w6, by omega, by omega⟩, by rw [e8]; omega⟩
            · exact absurd hm4 e
    · exact absurd hm e
  · rw [if_neg hm] at ea
    subst ea
    have hm2 := cnt_pos (show 0 < cntU b u by omega) hm
    obtain ⟨i1, i2⟩ := idx_lt hm2
    refine rAstore_n dX2_mergeThree_6 (by decide) ?_
    refine rAload_n dX2_mergeThree_7 rfl ?_
    refine rIload_n dX2_mergeThree_8 rfl ?_
    refine rIload_n dX2_mergeThree_9 rfl ?_
    refine sCallVp (M' := mX5_find) (rm' := rmD 1 0 0) (As := [.int (nI k), .int (nI t)]) (rest := []) dX2_mergeThree_10 rfl mk_X5_find mi_X5_find ll_X2_68 ⟨(Nat.le_of_ble_eq_true rfl), (Nat.le_of_ble_eq_true rfl)⟩ hP.2.2.1.1 (by decide) rfl rfl (Nat.le_of_ble_eq_true rfl) (Nat.le_of_ble_eq_true rfl) (c_X5_find hP.2.2.1 (by omega) (by omega) h.2 o2 hu hk ht) rfl (Nat.le_of_ble_eq_true rfl) (fun v e => ?_)
    rcases e with ⟨-, rfl⟩ | ⟨e, -⟩
    · refine rIstore dX2_mergeThree_13 (by decide) ?_
      refine rIload dX2_mergeThree_15 rfl ?_
      refine rIconst (v := (-1)) dX2_mergeThree_17 (by decide) ?_
      refine r_icmp_eq (tgt := 32) dX2_mergeThree_18 (by decide) (fun c_18 => ?_) (fun c_18 => ?_)
      · exact absurd c_18 (nI_m1 (by omega))
      · refine rAload_n dX2_mergeThree_21 rfl ?_
        refine sGetR dX2_mergeThree_22 fl_X2_71 hP.2.2.1.1 (by decide) rfl ?_
        refine rIload dX2_mergeThree_25 rfl ?_
        refine rDup2 dX2_mergeThree_27 rfl rfl ?_
        refine nIald (v := (nI (t))) dX2_mergeThree_28 hP.2.2.1.2.2 (by omega) (by omega) (by rw [(h.2.2 _ (by omega)).2, i2, ht]) ?_
        refine rIconst (v := (nI (1))) dX2_mergeThree_29 (by decide) ?_
        refine nIadd dX2_mergeThree_30 ?_
        refine nIast dX2_mergeThree_31 hP.2.2.1.2.2 (by omega) (by omega) ?_
        refine rIconst (v := (nI (0))) dX2_mergeThree_32 (by decide) ?_
        refine rIstore dX2_mergeThree_33 (by decide) ?_
        obtain ⟨b0, hb0⟩ : ∃ z, z = repU b u := ⟨_, rfl⟩
        have hb1 : b0 = (b.1, b.2.set (b.2.idxOf u) (u + 1)) := by rw [hb0]; exact if_neg hm
        have hbb : bbIs (sw s (P + 2 + 2) (b.2.idxOf u) (nI (t + 1))) P b0 := by
          rw [hb1]
          exact ⟨rowIs_keep h.1 (sw_a (by omega)) (sw_a (by omega)) (sw_a (by omega)), ⟨by rw [sw_a (by omega), List.length_set]; exact h.2.1, fun i hi => (by
                    rw [List.length_set] at hi
                    have hi' := h.2.2 i hi
                    rw [set_get i1, sw_a (by omega)]
                    by_cases e : i = b.2.idxOf u
                    · subst e
                      rw [if_pos rfl, sw_s, hi'.1, i2]
                      exact ⟨congrArg nI (by omega), congrArg nI (by omega)⟩
                    · rw [if_neg e, sw_i e]
                      exact hi')⟩⟩
        rw [← hb0] at r1 r2 r3 q1 q2
        refine loopW (σ := sgT) (2) (fun i y => [some (.ref (ad V P)), some (.int (nI k)), some (.int (nI t)), some (.ref (ad V (P + 2))), some (.int (nI (b.2.idxOf u))), some (.int (nI i)), none]) (fun i y => y) (fun i y => bbIs y P (eraN u i b0) ∧ bbFr s y P ∧ bbOk (eraN u i b0) ∧ 2 ≤ cntU (eraN u i b0) u + i) (0) (sw s (P + 2 + 2) (b.2.idxOf u) (nI (t + 1))) (by omega) ⟨hbb, fun a ha => sw_a (by omega), ⟨q1, q2, by show b0.1.length ≤ 5; omega, by show b0.2.length ≤ 6; omega⟩, by show 2 ≤ cntU b0 u + 0; omega⟩ (fun i y hi hinv ih => ?_)
        obtain ⟨v1, v2, v3, v4⟩ := hinv
        obtain ⟨c, hc0⟩ : ∃ z, z = eraN u i b0 := ⟨_, rfl⟩
        rw [← hc0] at v1 v3 v4
        refine rIload dX2_mergeThree_35 rfl ?_
        refine rIconst (v := (nI (2))) dX2_mergeThree_37 (by decide) ?_
        refine r_icmp_ge (tgt := 67) dX2_mergeThree_38 (by decide) (fun c_38 => ?_) (fun c_38 => ?_)
        · have c_38 : 2 ≤ i := (nI_leI (by omega) (by omega)).mp c_38
          have e : i = 2 := by omega
          subst e
          rw [hc0, hb0] at v1
          exact sVret dX2_mergeThree_67 rfl (Nat.le_of_ble_eq_true rfl) (Nat.le_of_ble_eq_true rfl) ⟨rfl, ⟨v1, v2⟩⟩
        · have c_38 : ¬ (2 ≤ i) := fun h => c_38 ((nI_leI (by omega) (by omega)).mpr h)
          obtain ⟨o1, o2, o3, o4⟩ := id v3
          obtain ⟨w1, w2, w3, w4⟩ := cnt_era (b := c) (u := u) (by omega)
          obtain ⟨w5, w6⟩ := ok_era (u := u) o1 o2
          refine rAload_n dX2_mergeThree_41 rfl ?_
          refine rIload_n dX2_mergeThree_42 rfl ?_
          refine rIload_n dX2_mergeThree_43 rfl ?_
          refine sCallVq (M' := mX2_rowOfFirst) (rm' := rmD 2 0 0) (As := [.int (nI k), .int (nI t)]) (rest := []) dX2_mergeThree_44 rfl mk_X2_rowOfFirst mi_X2_rowOfFirst ll_X2_64 ⟨(Nat.le_of_ble_eq_true rfl), (Nat.le_of_ble_eq_true rfl)⟩ hP.1 (by decide) rfl rfl (Nat.le_of_ble_eq_true rfl) (Nat.le_of_ble_eq_true rfl) (c_X2_rowOfFirst hP v1 v3 hu hk ht) rfl (Nat.le_of_ble_eq_true rfl) (fun a ea => ?_)
          by_cases hm3 : u ∈ c.1
          · rw [if_pos hm3] at ea
            subst ea
            obtain ⟨j1, j2⟩ := idx_lt hm3
            refine rAstore dX2_mergeThree_47 (by decide) ?_
            refine rAload dX2_mergeThree_49 rfl ?_
            refine rAload dX2_mergeThree_51 rfl ?_
            refine rIload_n dX2_mergeThree_53 rfl ?_
            refine rIload_n dX2_mergeThree_54 rfl ?_
            refine sCallVp (M' := mX5_find) (rm' := rmD 1 0 0) (As := [.int (nI k), .int (nI t)]) (rest := [.ref (ad V (P + 5))]) dX2_mergeThree_55 rfl mk_X5_find mi_X5_find ll_X2_68 ⟨(Nat.le_of_ble_eq_true rfl), (Nat.le_of_ble_eq_true rfl)⟩ hP.2.2.2.1 (by decide) rfl rfl (Nat.le_of_ble_eq_true rfl) (Nat.le_of_ble_eq_true rfl) (c_X5_find hP.2.2.2 (by omega) (by omega) v1.1 o1 hu hk ht) rfl (Nat.le_of_ble_eq_true rfl) (fun v e => ?_)
            rcases e with ⟨-, rfl⟩ | ⟨e, -⟩
            · refine sCallVv (M' := mX5_removeAt) (rm' := rmD 2 0 0) (As := [.int (nI (c.1.idxOf u))]) (rest := []) dX2_mergeThree_58 rfl mk_X5_removeAt mi_X5_removeAt ll_X2_74 ⟨(Nat.le_of_ble_eq_true rfl), (Nat.le_of_ble_eq_true rfl)⟩ hP.2.2.2.1 (by decide) rfl rfl (Nat.le_of_ble_eq_true rfl) (Nat.le_of_ble_eq_true rfl) (c_X5_removeAt hP.2.2.2 (by omega) (by omega) v1.1 o1 j1) rfl (Nat.le_of_ble_eq_true rfl) (fun s1 hz => ?_)
              obtain ⟨hz1, hz2⟩ := hz
              refine rIinc (v := (nI (i + 1))) dX2_mergeThree_61 rfl (by first | exact nI_add _ _ | rfl) (by decide) ?_
              refine rGoto (tgt := 35) dX2_mergeThree_64 (by decide) ?_
              refine rForget (L := [some (.ref (ad V P)), some (.int (nI k)), some (.int (nI t)), some (.ref (ad V (P + 2))), some (.int (nI (b.2.idxOf u))), some (.int (nI (i + 1))), some (.ref (ad V (P + 5)))]) (L' := [some (.ref (ad V P)), some (.int (nI k)), some (.int (nI t)), some (.ref (ad V (P + 2))), some (.int (nI (b.2.idxOf u))), some (.int (nI (i + 1))), none]) (by exact ⟨rfl, ⟨rfl, ⟨rfl, ⟨rfl, ⟨rfl, ⟨rfl, trivial⟩⟩⟩⟩⟩⟩) ?_
              have e9 : eraN u (i + 1) b0 = (c.1.eraseIdx (c.1.idxOf u), c.2) := by
                show eraU (eraN u i b0) u = _
                rw [← hc0]
                exact if_pos hm3
              have e8 : eraN u (i + 1) b0 = eraU c u := by rw [hc0]; rfl
              exact ih (by omega) s1 ⟨by rw [e9]; exact ⟨hz1, rowIs_keep v1.2 (hz2 _ (by omega) (by omega) (by omega)) (hz2 _ (by omega) (by omega) (by omega)) (hz2 _ (by omega) (by omega) (by omega))⟩, fun a ha => (hz2 a (by omega) (by omega) (by omega)).trans (v2 a ha), by rw [e8]; exact ⟨w5, w6, by omega, by omega⟩, by rw [e8]; omega⟩
            · exact absurd hm3 e
          · rw [if_neg hm3] at ea
            subst ea
            have hm4 := cnt_pos (show 0 < cntU c u by omega) hm3
            obtain ⟨j1, j2⟩ := idx_lt hm4
            refine rAstore dX2_mergeThree_47 (by decide) ?_
            refine rAload dX2_mergeThree_49 rfl ?_
            refine rAload dX2_mergeThree_51 rfl ?_
            refine rIload_n dX2_mergeThree_53 rfl ?_
            refine rIload_n dX2_mergeThree_54 rfl ?_
            refine sCallVp (M' := mX5_find) (rm' := rmD 1 0 0) (As := [.int (nI k), .int (nI t)]) (rest := [.ref (ad V (P + 2))]) dX2_mergeThree_55 rfl mk_X5_find mi_X5_find ll_X2_68 ⟨(Nat.le_of_ble_eq_true rfl), (Nat.le_of_ble_eq_true rfl)⟩ hP.2.2.1.1 (by decide) rfl rfl (Nat.le_of_ble_eq_true rfl) (Nat.le_of_ble_eq_true rfl) (c_X5_find hP.2.2.1 (by omega) (by omega) v1.2 o2 hu hk ht) rfl (Nat.le_of_ble_eq_true rfl) (fun v e => ?_)
            rcases e with ⟨-, rfl⟩ | ⟨e, -⟩
            · refine sCallVv (M' := mX5_removeAt) (rm' := rmD 2 0 0) (As := [.int (nI (c.2.idxOf u))]) (rest := []) dX2_mergeThree_58 rfl mk_X5_removeAt mi_X5_removeAt ll_X2_74 ⟨(Nat.le_of_ble_eq_true rfl), (Nat.le_of_ble_eq_true rfl)⟩ hP.2.2.1.1 (by decide) rfl rfl (Nat.le_of_ble_eq_true rfl) (Nat.le_of_ble_eq_true rfl) (c_X5_removeAt hP.2.2.1 (by omega) (by omega) v1.2 o2 j1) rfl (Nat.le_of_ble_eq_true rfl) (fun s1 hz => ?_)
              obtain ⟨hz1, hz2⟩ := hz
              refine rIinc (v := (nI (i + 1))) dX2_mergeThree_61 rfl (by first | exact nI_add _ _ | rfl) (by decide) ?_
              refine rGoto (tgt := 35) dX2_mergeThree_64 (by decide) ?_
              refine rForget (L := [some (.ref (ad V P)), some (.int (nI k)), some (.int (nI t)), some (.ref (ad V (P + 2))), some (.int (nI (b.2.idxOf u))), some (.int (nI (i + 1))), some (.ref (ad V (P + 2)))]) (L' := [some (.ref (ad V P)), some (.int (nI k)), some (.int (nI t)), some (.ref (ad V (P + 2))), some (.int (nI (b.2.idxOf u))), some (.int (nI (i + 1))), none]) (by exact ⟨rfl, ⟨rfl, ⟨rfl, ⟨rfl, ⟨rfl, ⟨rfl, trivial⟩⟩⟩⟩⟩⟩) ?_
              have e9 : eraN u (i + 1) b0 = (c.1, c.2.eraseIdx (c.2.idxOf u)) := by
                show eraU (eraN u i b0) u = _
                rw [← hc0]
                exact if_neg hm3
              have e8 : eraN u (i + 1) b0 = eraU c u := by rw [hc0]; rfl
              exact ih (by omega) s1 ⟨by rw [e9]; exact ⟨rowIs_keep v1.1 (hz2 _ (by omega) (by omega) (by omega)) (hz2 _ (by omega) (by omega) (by omega)) (hz2 _ (by omega) (by omega) (by omega)), hz1⟩, fun a ha => (hz2 a (by omega) (by omega) (by omega)).trans (v2 a ha), by rw [e8]; exact ⟨w5, w6, by omega, by omega⟩, by rw [e8]; omega⟩
            · exact absurd hm4 e
    · exact absurd hm2 e
set_option maxRecDepth 100000 in
set_option maxHeartbeats 4000000 in
theorem c_X2_mergeFirstThree {G : gG} {V : wV} {lo : Nat → Int64} {P : Nat} {b : bbT} (hP : plAt V P) {s : sgT} (h : bbIs s P b) (ho : bbOk b) : CSi G V mX2_mergeFirstThree cX2_mergeFirstThree (rmD 4 0 0) [.ref (ad V P)] s lo (fun v s' => (fstU b = none ∧ s' = s ∧ v = nI 0) ∨ ∃ u, fstU b = some u ∧ bbIs s' P (merU b u) ∧ bbFr s s' P ∧ v = nI 1) (fun _ => False) := by
  refine CSi.of (L := [some (.ref (ad V P)), none, none]) rfl (by decide +kernel) rfl (Nat.le_of_ble_eq_true rfl) rfl ?_
  obtain ⟨o1, o2, o3, o4⟩ := id ho
  refine rIconst (v := (nI (0))) dX2_mergeFirstThree_0 (by decide) ?_
  refine rIstore_n dX2_mergeFirstThree_1 (by decide) ?_
  refine loopW (σ := Unit) (9) (fun i _ => [some (.ref (ad V P)), some (.int (nI i)), none]) (fun i _ => s) (fun i _ => fstJ b (18 - 2 * i) (2 * i) = fstU b) (0) () (by omega) rfl (fun i _ hi hinv ih => ?_)
  refine rIload_n dX2_mergeFirstThree_2 rfl ?_
  refine rBipush (v := (nI (9))) dX2_mergeFirstThree_3 (by decide) ?_
  refine r_icmp_ge (tgt := 58) dX2_mergeFirstThree_5 (by decide) (fun c_5 => ?_) (fun c_5 => ?_)
  · have c_5 : 9 ≤ i := (nI_leI (by omega) (by omega)).mp c_5
    refine rIconst (v := (nI (0))) dX2_mergeFirstThree_58 (by decide) ?_
    have e : i = 9 := by omega
    subst e
    exact sIret dX2_mergeFirstThree_59 rfl rfl (Nat.le_of_ble_eq_true rfl) (Nat.le_of_ble_eq_true rfl) ⟨_, rfl, (Or.inl ⟨hinv.symm, rfl, rfl⟩)⟩
  · have c_5 : ¬ (9 ≤ i) := fun h => c_5 ((nI_leI (by omega) (by omega)).mpr h)
    refine rIconst (v := (nI (1))) dX2_mergeFirstThree_8 (by decide) ?_
    refine rIstore_n dX2_mergeFirstThree_9 (by decide) ?_
    refine loopW (σ := Unit) (2) (fun j _ => [some (.ref (ad V P)), some (.int (nI i)), some (.int (nI (1 + j)))]) (fun j _ => s) (fun j _ => fstJ b (18 - (2 * i + j)) (2 * i + j) = fstU b) (0) () (by omega) hinv (fun j _ hj hjn ihj => ?_)
    refine rIload_n dX2_mergeFirstThree_10 rfl ?_
    refine rIconst (v := (nI (3))) dX2_mergeFirstThree_11 (by decide) ?_
    refine r_icmp_ge (tgt := 52) dX2_mergeFirstThree_12 (by decide) (fun c_12 => ?_) (fun c_12 => ?_)
    · have c_12 : 3 ≤ (1 + j) := (nI_leI (by omega) (by omega)).mp c_12
      have e : j = 2 := by omega
      refine rIinc (v := (nI (i + 1))) dX2_mergeFirstThree_52 rfl (by first | exact nI_add _ _ | rfl) (by decide) ?_
      refine rGoto (tgt := 2) dX2_mergeFirstThree_55 (by decide) ?_
      refine rForget (L := [some (.ref (ad V P)), some (.int (nI (i + 1))), some (.int (nI (1 + j)))]) (L' := [some (.ref (ad V P)), some (.int (nI (i + 1))), none]) (by exact ⟨rfl, ⟨rfl, trivial⟩⟩) ?_
      exact ih (by omega) () (by rw [show 2 * (i + 1) = 2 * i + j by omega]; exact hjn)
    · have c_12 : ¬ (3 ≤ (1 + j)) := fun h => c_12 ((nI_leI (by omega) (by omega)).mpr h)
      obtain ⟨u, hu⟩ : ∃ z, z = uJ (2 * i + j) := ⟨_, rfl⟩
      have huo : okU u := hu ▸ (uJ_ok (show 2 * i + j < 18 by omega)).1
      have huo1 : okU (u + 1) := hu ▸ uJ_succ (show 2 * i + j < 18 by omega)
      have hk : u / 10 = i := by rw [hu]; unfold uJ; omega
      have ht : u % 10 = 1 + j := by rw [hu]; unfold uJ; omega
      have hn1 : b.1.count u ≤ b.1.length := List.count_le_length
      have hn2 : b.2.count u ≤ b.2.length := List.count_le_length
      rw [show 18 - (2 * i + j) = (18 - (2 * i + (j + 1))) + 1 by omega] at hjn
      simp only [fstJ] at hjn
      rw [← hu] at hjn
      refine rAload_n dX2_mergeFirstThree_15 rfl ?_
      refine sGetR dX2_mergeFirstThree_16 fl_X2_34 hP.1 (by decide) rfl ?_
      refine rIload_n dX2_mergeFirstThree_19 rfl ?_
      refine rIload_n dX2_mergeFirstThree_20 rfl ?_
      refine sCallVp (M' := mX5_countOf) (rm' := rmD 1 0 0) (As := [.int (nI i), .int (nI (1 + j))]) (rest := []) dX2_mergeFirstThree_21 rfl mk_X5_countOf mi_X5_countOf ll_X2_57 ⟨(Nat.le_of_ble_eq_true rfl), (Nat.le_of_ble_eq_true rfl)⟩ hP.2.2.2.1 (by decide) rfl rfl (Nat.le_of_ble_eq_true rfl) (Nat.le_of_ble_eq_true rfl) (c_X5_countOf hP.2.2.2 (by omega) o3 h.1 o1 huo hk ht) rfl (Nat.le_of_ble_eq_true rfl) (fun v e1 => ?_)
      refine tTop (w := (nI (b.1.count u))) e1 ?_
      refine rAload_n dX2_mergeFirstThree_24 rfl ?_
      refine sGetR dX2_mergeFirstThree_25 fl_X2_30 hP.1 (by decide) rfl ?_
      refine rIload_n dX2_mergeFirstThree_28 rfl ?_
      refine rIload_n dX2_mergeFirstThree_29 rfl ?_
      refine sCallVp (M' := mX5_countOf) (rm' := rmD 1 0 0) (As := [.int (nI i), .int (nI (1 + j))]) (rest := [.int (nI (b.1.count u))]) dX2_mergeFirstThree_30 rfl mk_X5_countOf mi_X5_countOf ll_X2_57 ⟨(Nat.le_of_ble_eq_true rfl), (Nat.le_of_ble_eq_true rfl)⟩ hP.2.2.1.1 (by decide) rfl rfl (Nat.le_of_ble_eq_true rfl) (Nat.le_of_ble_eq_true rfl) (c_X5_countOf hP.2.2.1 (by omega) o4 h.2 o2 huo hk ht) rfl (Nat.le_of_ble_eq_true rfl) (fun v e2 => ?_)
      refine tTop (w := (nI (b.2.count u))) e2 ?_
      refine nIadd dX2_mergeFirstThree_33 ?_
      refine rIconst (v := (nI (3))) dX2_mergeFirstThree_34 (by decide) ?_
      refine r_icmp_lt (tgt := 46) dX2_mergeFirstThree_35 (by decide) (fun c_35 => ?_) (fun c_35 => ?_)
      · have c_35 : ((b.1.count u) + (b.2.count u)) < 3 := (nI_ltI (by omega) (by omega)).mp c_35
        rw [if_neg (by unfold cntU; omega)] at hjn
        refine rIinc (v := (nI (1 + j + 1))) dX2_mergeFirstThree_46 rfl (by first | exact nI_add _ _ | rfl) (by decide) ?_
        refine rGoto (tgt := 10) dX2_mergeFirstThree_49 (by decide) ?_
        exact ihj (by omega) () (by rw [show 2 * i + (j + 1) = 2 * i + j + 1 by omega] at hjn ⊢; exact hjn)
      · have c_35 : ¬ (((b.1.count u) + (b.2.count u)) < 3) := fun h => c_35 ((nI_ltI (by omega) (by omega)).mpr h)
        rw [if_pos (by unfold cntU; omega)] at hjn
        refine rAload_n dX2_mergeFirstThree_38 rfl ?_
        refine rIload_n dX2_mergeFirstThree_39 rfl ?_
        refine rIload_n dX2_mergeFirstThree_40 rfl ?_
        refine sCallVv (M' := mX2_mergeThree) (rm' := rmD 3 0 0) (As := [.int (nI i), .int (nI (1 + j))]) (rest := []) dX2_mergeFirstThree_41 rfl mk_X2_mergeThree mi_X2_mergeThree ll_X2_60 ⟨(Nat.le_of_ble_eq_true rfl), (Nat.le_of_ble_eq_true rfl)⟩ hP.1 (by decide) rfl rfl (Nat.le_of_ble_eq_true rfl) (Nat.le_of_ble_eq_true rfl) (c_X2_mergeThree hP h ho huo hk ht huo1 (by unfold cntU; omega)) rfl (Nat.le_of_ble_eq_true rfl) (fun s1 hz => ?_)
        refine rIconst (v := (nI (1))) dX2_mergeFirstThree_44 (by decide) ?_
        exact sIret dX2_mergeFirstThree_45 rfl rfl (Nat.le_of_ble_eq_true rfl) (Nat.le_of_ble_eq_true rfl) ⟨_, rfl, (Or.inr ⟨u, hjn.symm, hz.1, hz.2, rfl⟩)⟩
set_option maxRecDepth 100000 in
set_option maxHeartbeats 4000000 in
theorem c_X2_mergeThrees {G : gG} {V : wV} {lo : Nat → Int64} {P : Nat} {b : bbT} (hP : plAt V P) {s : sgT} (h : bbIs s P b) (ho : bbOk b) : CSv G V mX2_mergeThrees cX2_mergeThrees (rmD 5 0 0) [.ref (ad V P)] s lo (fun s' => bbIs s' P (merI 11 b) ∧ bbFr s s' P) (fun _ => False) := by
  refine CSv.of (L := [some (.ref (ad V P)), none]) rfl (by decide +kernel) rfl (Nat.le_of_ble_eq_true rfl) rfl ?_
  obtain ⟨o1, o2, o3, o4⟩ := id ho
  refine rIconst (v := (nI (0))) dX2_mergeThrees_0 (by decide) ?_
  refine rIstore_n dX2_mergeThrees_1 (by decide) ?_
  refine loopW (σ := sgT × bbT) (11) (fun i y => [some (.ref (ad V P)), some (.int (nI i))]) (fun i y => y.1) (fun i y => bbIs y.1 P y.2 ∧ bbFr s y.1 P ∧ bbOk y.2 ∧ merI (11 - i) y.2 = merI 11 b) (0) (s, b) (by omega) ⟨h, fun _ _ => rfl, ho, rfl⟩ (fun i y hi hinv ih => ?_)
  obtain ⟨z, c⟩ := y
  obtain ⟨v1, v2, v3, v4⟩ := hinv
  dsimp only at v1 v2 v3 v4
  refine rIload_n dX2_mergeThrees_2 rfl ?_
  refine rBipush (v := (nI (11))) dX2_mergeThrees_3 (by decide) ?_
  refine r_icmp_ge (tgt := 22) dX2_mergeThrees_5 (by decide) (fun c_5 => ?_) (fun c_5 => ?_)
  · have c_5 : 11 ≤ i := (nI_leI (by omega) (by omega)).mp c_5
    have e : i = 11 := by omega
    subst e
    have v4 : c = merI 11 b := v4
    rw [v4] at v1
    exact sVret dX2_mergeThrees_22 rfl (Nat.le_of_ble_eq_true rfl) (Nat.le_of_ble_eq_true rfl) ⟨rfl, ⟨v1, v2⟩⟩
  · have c_5 : ¬ (11 ≤ i) := fun h => c_5 ((nI_leI (by omega) (by omega)).mpr h)
    refine rAload_n dX2_mergeThrees_8 rfl ?_
    refine sCallVi (M' := mX2_mergeFirstThree) (rm' := rmD 4 0 0) (As := []) (rest := []) dX2_mergeThrees_9 rfl mk_X2_mergeFirstThree mi_X2_mergeFirstThree ll_X2_53 ⟨(Nat.le_of_ble_eq_true rfl), (Nat.le_of_ble_eq_true rfl)⟩ hP.1 (by decide) rfl rfl (Nat.le_of_ble_eq_true rfl) (Nat.le_of_ble_eq_true rfl) (c_X2_mergeFirstThree hP v1 v3) rfl (Nat.le_of_ble_eq_true rfl) (fun v s1 hz => ?_)
    rcases hz with ⟨e1, rfl, rfl⟩ | ⟨u, e1, e2, e3, rfl⟩
    · refine r_if_ne (tgt := 16) dX2_mergeThrees_12 (by decide) (fun c_12 => ?_) (fun c_12 => ?_)
      · have c_12 : ¬ (0 = 0) := fun h => c_12 ((nz_eq (by omega)).mpr h)
        exact absurd c_12 (by omega)
      · have c_12 : 0 = 0 := (nz_eq (by omega)).mp c_12
        rw [merI_none e1] at v4
        rw [v4] at v1
        exact sVret dX2_mergeThrees_15 rfl (Nat.le_of_ble_eq_true rfl) (Nat.le_of_ble_eq_true rfl) ⟨rfl, ⟨v1, v2⟩⟩
    · refine r_if_ne (tgt := 16) dX2_mergeThrees_12 (by decide) (fun c_12 => ?_) (fun c_12 => ?_)
      · have c_12 : ¬ (1 = 0) := fun h => c_12 ((nz_eq (by omega)).mpr h)
        obtain ⟨g1, g2, g3⟩ := mer_fst e1
        obtain ⟨m1, m2, m3, m4, m5⟩ := mer_ok v3.1 v3.2.1 g2 g3
        rw [show 11 - i = (11 - (i + 1)) + 1 by omega, merI_some e1] at v4
        refine rIinc (v := (nI (i + 1))) dX2_mergeThrees_16 rfl (by first | exact nI_add _ _ | rfl) (by decide) ?_
        refine rGoto (tgt := 2) dX2_mergeThrees_19 (by decide) ?_
        exact ih (by omega) (s1, merU c u) ⟨e2, fun a ha => (e3 a ha).trans (v2 a ha), ⟨m1, m2, Nat.le_trans m4 v3.2.2.1, Nat.le_trans m5 v3.2.2.2⟩, v4⟩
      · have c_12 : 1 = 0 := (nz_eq (by omega)).mp c_12
        exact absurd c_12 (by omega)
