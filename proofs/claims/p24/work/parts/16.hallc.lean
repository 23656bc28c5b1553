/-! the methods of the hall: questions, numbers, levels (by program) -/
set_option maxRecDepth 100000 in
set_option maxHeartbeats 4000000 in
theorem c_X6_playerOf {G : gG} {V : wV} {lo : Nat → Int64} {o : Nat} (ho : hallAt V o) (hfl : (gl G).stackTraces = false) {s : sgT} {x : Int32} : CSq G V mX6_playerOf cX6_playerOf (rmD 6 1 6) [.ref (ad V o), .int x] s lo (fun b => ∃ p, p < 4 ∧ x = nI p ∧ b = o + 15 + 8 * p) (fun E => E = xIO ∧ idx 4 x = none) := by
  refine CSq.of (L := [some (.ref (ad V o)), some (.int x)]) rfl (by decide +kernel) rfl (Nat.le_of_ble_eq_true rfl) rfl ?_
  refine rIload_n dX6_playerOf_0 rfl ?_
  refine r_if_lt (tgt := 9) dX6_playerOf_1 (by decide) (fun c_1 => ?_) (fun c_1 => ?_)
  · exact sThrow hfl rfl xl_X6_204 dX6_playerOf_9 dX6_playerOf_12 dX6_playerOf_13 dX6_playerOf_15 dX6_playerOf_18 (Nat.le_of_ble_eq_true rfl) (Nat.le_of_ble_eq_true rfl) (Nat.le_of_ble_eq_true rfl) (Nat.le_of_ble_eq_true rfl) rfl ⟨rfl, idx_neg c_1⟩
  · obtain ⟨p, hp31, rfl⟩ := nI_of c_1
    refine rIload_n dX6_playerOf_4 rfl ?_
    refine rIconst (v := (nI (4))) dX6_playerOf_5 (by decide) ?_
    refine r_icmp_lt (tgt := 19) dX6_playerOf_6 (by decide) (fun c_6 => ?_) (fun c_6 => ?_)
    · have c_6 : p < 4 := (nI_ltI (by omega) (by omega)).mp c_6
      refine rAload_n dX6_playerOf_19 rfl ?_
      refine sGetR dX6_playerOf_20 fl_X6_11 ho.1 (by decide) rfl ?_
      refine rIload_n dX6_playerOf_23 rfl ?_
      refine nAald (b := o + 15 + 8 * p) dX6_playerOf_24 ho.2.1 (by omega) (by omega) (hall_pl (by omega)) ?_
      exact sAret dX6_playerOf_25 rfl (Nat.le_of_ble_eq_true rfl) (Nat.le_of_ble_eq_true rfl) ⟨_, rfl, rfl, ⟨p, c_6, rfl, rfl⟩⟩
    · have c_6 : ¬ (p < 4) := fun h => c_6 ((nI_ltI (by omega) (by omega)).mpr h)
      exact sThrow hfl rfl xl_X6_204 dX6_playerOf_9 dX6_playerOf_12 dX6_playerOf_13 dX6_playerOf_15 dX6_playerOf_18 (Nat.le_of_ble_eq_true rfl) (Nat.le_of_ble_eq_true rfl) (Nat.le_of_ble_eq_true rfl) (Nat.le_of_ble_eq_true rfl) rfl ⟨rfl, idx_no (by omega) hp31⟩
set_option maxRecDepth 100000 in
set_option maxHeartbeats 4000000 in
theorem c_X6_requireKind {G : gG} {V : wV} {lo : Nat → Int64} (hfl : (gl G).stackTraces = false) {s : sgT} {x : Int32} : CSu G V mX6_requireKind cX6_requireKind (rmD 6 1 6) [.int x] s lo (∃ p, p < 9 ∧ x = nI p) (fun E => E = xIO ∧ idx 9 x = none) := by
  refine CSu.of (L := [some (.int x)]) rfl (by decide +kernel) rfl (Nat.le_of_ble_eq_true rfl) rfl ?_
  refine rIload_n dX6_requireKind_0 rfl ?_
  refine r_if_lt (tgt := 10) dX6_requireKind_1 (by decide) (fun c_1 => ?_) (fun c_1 => ?_)
  · exact sThrow hfl rfl xl_X6_206 dX6_requireKind_10 dX6_requireKind_13 dX6_requireKind_14 dX6_requireKind_16 dX6_requireKind_19 (Nat.le_of_ble_eq_true rfl) (Nat.le_of_ble_eq_true rfl) (Nat.le_of_ble_eq_true rfl) (Nat.le_of_ble_eq_true rfl) rfl ⟨rfl, idx_neg c_1⟩
  · obtain ⟨p, hp31, rfl⟩ := nI_of c_1
    refine rIload_n dX6_requireKind_4 rfl ?_
    refine rBipush (v := (nI (9))) dX6_requireKind_5 (by decide) ?_
    refine r_icmp_lt (tgt := 20) dX6_requireKind_7 (by decide) (fun c_7 => ?_) (fun c_7 => ?_)
    · have c_7 : p < 9 := (nI_ltI (by omega) (by omega)).mp c_7
      exact sVret dX6_requireKind_20 rfl (Nat.le_of_ble_eq_true rfl) (Nat.le_of_ble_eq_true rfl) ⟨rfl, rfl, ⟨p, c_7, rfl⟩⟩
    · have c_7 : ¬ (p < 9) := fun h => c_7 ((nI_ltI (by omega) (by omega)).mpr h)
      exact sThrow hfl rfl xl_X6_206 dX6_requireKind_10 dX6_requireKind_13 dX6_requireKind_14 dX6_requireKind_16 dX6_requireKind_19 (Nat.le_of_ble_eq_true rfl) (Nat.le_of_ble_eq_true rfl) (Nat.le_of_ble_eq_true rfl) (Nat.le_of_ble_eq_true rfl) rfl ⟨rfl, idx_no (by omega) hp31⟩
set_option maxRecDepth 100000 in
set_option maxHeartbeats 4000000 in
theorem c_X6_requireSlot {G : gG} {V : wV} {lo : Nat → Int64} (hfl : (gl G).stackTraces = false) {s : sgT} {x : Int32} : CSu G V mX6_requireSlot cX6_requireSlot (rmD 6 1 6) [.int x] s lo (∃ p, p < 3 ∧ x = nI p) (fun E => E = xIO ∧ idx 3 x = none) := by
  refine CSu.of (L := [some (.int x)]) rfl (by decide +kernel) rfl (Nat.le_of_ble_eq_true rfl) rfl ?_
  refine rIload_n dX6_requireSlot_0 rfl ?_
  refine r_if_lt (tgt := 9) dX6_requireSlot_1 (by decide) (fun c_1 => ?_) (fun c_1 => ?_)
  · exact sThrow hfl rfl xl_X6_208 dX6_requireSlot_9 dX6_requireSlot_12 dX6_requireSlot_13 dX6_requireSlot_15 dX6_requireSlot_18 (Nat.le_of_ble_eq_true rfl) (Nat.le_of_ble_eq_true rfl) (Nat.le_of_ble_eq_true rfl) (Nat.le_of_ble_eq_true rfl) rfl ⟨rfl, idx_neg c_1⟩
  · obtain ⟨p, hp31, rfl⟩ := nI_of c_1
    refine rIload_n dX6_requireSlot_4 rfl ?_
    refine rIconst (v := (nI (3))) dX6_requireSlot_5 (by decide) ?_
    refine r_icmp_lt (tgt := 19) dX6_requireSlot_6 (by decide) (fun c_6 => ?_) (fun c_6 => ?_)
    · have c_6 : p < 3 := (nI_ltI (by omega) (by omega)).mp c_6
      exact sVret dX6_requireSlot_19 rfl (Nat.le_of_ble_eq_true rfl) (Nat.le_of_ble_eq_true rfl) ⟨rfl, rfl, ⟨p, c_6, rfl⟩⟩
    · have c_6 : ¬ (p < 3) := fun h => c_6 ((nI_ltI (by omega) (by omega)).mpr h)
      exact sThrow hfl rfl xl_X6_208 dX6_requireSlot_9 dX6_requireSlot_12 dX6_requireSlot_13 dX6_requireSlot_15 dX6_requireSlot_18 (Nat.le_of_ble_eq_true rfl) (Nat.le_of_ble_eq_true rfl) (Nat.le_of_ble_eq_true rfl) (Nat.le_of_ble_eq_true rfl) rfl ⟨rfl, idx_no (by omega) hp31⟩
set_option maxRecDepth 100000 in
set_option maxHeartbeats 4000000 in
theorem c_X6_requireUnit {G : gG} {V : wV} {lo : Nat → Int64} {r n : Nat} {l : List Nat} (hr : rowAt V r n) (hn : n ≤ 6) (hl : l.length ≤ n) {s : sgT} (h : rowIs s r l) (ho : okR l) (hfl : (gl G).stackTraces = false) {x : Int32} : CSu G V mX6_requireUnit cX6_requireUnit (rmD 6 1 6) [.ref (ad V r), .int x] s lo (∃ p, p < l.length ∧ x = nI p) (fun E => E = xIO ∧ idx l.length x = none) := by
  refine CSu.of (L := [some (.ref (ad V r)), some (.int x)]) rfl (by decide +kernel) rfl (Nat.le_of_ble_eq_true rfl) rfl ?_
  refine rAload_n dX6_requireUnit_0 rfl ?_
  refine rIload_n dX6_requireUnit_1 rfl ?_
  refine sCallVp (M' := mX5_has) (rm' := rmD 1 0 0) (As := [.int x]) (rest := []) dX6_requireUnit_2 rfl mk_X5_has mi_X5_has ll_X6_210 ⟨(Nat.le_of_ble_eq_true rfl), (Nat.le_of_ble_eq_true rfl)⟩ hr.1 (by decide) rfl rfl (Nat.le_of_ble_eq_true rfl) (Nat.le_of_ble_eq_true rfl) (c_X5_has hr hn hl h ho) rfl (Nat.le_of_ble_eq_true rfl) (fun v e => ?_)
  rcases e with ⟨e, rfl⟩ | ⟨e, rfl⟩
  · refine r_if_ne (tgt := 18) dX6_requireUnit_5 (by decide) (fun c_5 => ?_) (fun c_5 => ?_)
    · have c_5 : ¬ (1 = 0) := fun h => c_5 ((nz_eq (by omega)).mpr h)
      exact sVret dX6_requireUnit_18 rfl (Nat.le_of_ble_eq_true rfl) (Nat.le_of_ble_eq_true rfl) ⟨rfl, rfl, e⟩
    · have c_5 : 1 = 0 := (nz_eq (by omega)).mp c_5
      exact absurd c_5 (by omega)
  · refine r_if_ne (tgt := 18) dX6_requireUnit_5 (by decide) (fun c_5 => ?_) (fun c_5 => ?_)
    · have c_5 : ¬ (0 = 0) := fun h => c_5 ((nz_eq (by omega)).mpr h)
      exact absurd rfl c_5
    · have c_5 : 0 = 0 := (nz_eq (by omega)).mp c_5
      exact sThrow hfl rfl xl_X6_213 dX6_requireUnit_8 dX6_requireUnit_11 dX6_requireUnit_12 dX6_requireUnit_14 dX6_requireUnit_17 (Nat.le_of_ble_eq_true rfl) (Nat.le_of_ble_eq_true rfl) (Nat.le_of_ble_eq_true rfl) (Nat.le_of_ble_eq_true rfl) rfl ⟨rfl, idx_not e⟩
set_option maxRecDepth 100000 in
set_option maxHeartbeats 4000000 in
theorem c_X6_gold {G : gG} {V : wV} {lo : Nat → Int64} {o : Nat} (ho : hallAt V o) {s : sgT} {h : hT} (hh : hallIs s o h) (hfl : (gl G).stackTraces = false) {x : Int32} : CSi G V mX6_gold cX6_gold (rmD 9 9 54) [.ref (ad V o), .int x] s lo (fun v s' => hPost o s ((fAsk (fun z => nI (pGold z))) h x) v s') (hExc [xIO] h ((fAsk (fun z => nI (pGold z))) h x)) := by
  refine CSi.of (L := [some (.ref (ad V o)), some (.int x)]) rfl (by decide +kernel) rfl (Nat.le_of_ble_eq_true rfl) rfl ?_
  refine rAload_n dX6_gold_0 rfl ?_
  refine rIload_n dX6_gold_1 rfl ?_
  refine sCallVXq (M' := mX6_playerOf) (rm' := rmD 6 1 6) (As := [.int x]) (rest := []) rfl dX6_gold_2 rfl mk_X6_playerOf mi_X6_playerOf ll_X6_57 ⟨(Nat.le_of_ble_eq_true rfl), (Nat.le_of_ble_eq_true rfl)⟩ ho.1 (by decide) rfl rfl (Nat.le_of_ble_eq_true rfl) (Nat.le_of_ble_eq_true rfl) (c_X6_playerOf ho hfl) rfl (Nat.le_of_ble_eq_true rfl) rfl (by rintro E ⟨rfl, e⟩; refine ⟨?_, 0, ?_, rfl⟩ <;> simp only [fAsk, e]) (fun P qp => ?_)
  obtain ⟨p, hp, rfl, eP⟩ := qp
  have ip : idx 4 (nI p) = some p := idx_nI hp (by decide)
  have aP : plAt V P := eP ▸ ho.2.2.2.2.2.2.2 p hp
  have yP : plIs s P (hY h p) := eP ▸ hh.2.2.1 p hp
  refine sGetI (x := (nI (pGold (hY h p)))) dX6_gold_5 fl_X6_61 aP.1 (by decide) rfl (by rw [yP.1]) ?_
  have hF : fAsk (fun z => nI (pGold z)) h (nI p) = (0, nI (pGold (hY h p)), h) := by simp only [fAsk, ip]
  rw [hF]
  exact sIret dX6_gold_8 rfl rfl (Nat.le_of_ble_eq_true rfl) (Nat.le_of_ble_eq_true rfl) ⟨_, rfl, ⟨rfl, rfl, hh, hFr.refl⟩⟩
set_option maxRecDepth 100000 in
set_option maxHeartbeats 4000000 in
theorem c_X6_health {G : gG} {V : wV} {lo : Nat → Int64} {o : Nat} (ho : hallAt V o) {s : sgT} {h : hT} (hh : hallIs s o h) (hfl : (gl G).stackTraces = false) {x : Int32} : CSi G V mX6_health cX6_health (rmD 9 9 54) [.ref (ad V o), .int x] s lo (fun v s' => hPost o s ((fAsk (fun z => nI (pHth z))) h x) v s') (hExc [xIO] h ((fAsk (fun z => nI (pHth z))) h x)) := by
  refine CSi.of (L := [some (.ref (ad V o)), some (.int x)]) rfl (by decide +kernel) rfl (Nat.le_of_ble_eq_true rfl) rfl ?_
  refine rAload_n dX6_health_0 rfl ?_
  refine rIload_n dX6_health_1 rfl ?_
  refine sCallVXq (M' := mX6_playerOf) (rm' := rmD 6 1 6) (As := [.int x]) (rest := []) rfl dX6_health_2 rfl mk_X6_playerOf mi_X6_playerOf ll_X6_57 ⟨(Nat.le_of_ble_eq_true rfl), (Nat.le_of_ble_eq_true rfl)⟩ ho.1 (by decide) rfl rfl (Nat.le_of_ble_eq_true rfl) (Nat.le_of_ble_eq_true rfl) (c_X6_playerOf ho hfl) rfl (Nat.le_of_ble_eq_true rfl) rfl (by rintro E ⟨rfl, e⟩; refine ⟨?_, 0, ?_, rfl⟩ <;> simp only [fAsk, e]) (fun P qp => ?_)
  obtain ⟨p, hp, rfl, eP⟩ := qp
  have ip : idx 4 (nI p) = some p := idx_nI hp (by decide)
  have aP : plAt V P := eP ▸ ho.2.2.2.2.2.2.2 p hp
  have yP : plIs s P (hY h p) := eP ▸ hh.2.2.1 p hp
  refine sGetI (x := (nI (pHth (hY h p)))) dX6_health_5 fl_X6_176 aP.1 (by decide) rfl (by rw [yP.2.2.1]) ?_
  have hF : fAsk (fun z => nI (pHth z)) h (nI p) = (0, nI (pHth (hY h p)), h) := by simp only [fAsk, ip]
  rw [hF]
  exact sIret dX6_health_8 rfl rfl (Nat.le_of_ble_eq_true rfl) (Nat.le_of_ble_eq_true rfl) ⟨_, rfl, ⟨rfl, rfl, hh, hFr.refl⟩⟩
set_option maxRecDepth 100000 in
set_option maxHeartbeats 4000000 in
theorem c_X6_streak {G : gG} {V : wV} {lo : Nat → Int64} {o : Nat} (ho : hallAt V o) {s : sgT} {h : hT} (hh : hallIs s o h) (hfl : (gl G).stackTraces = false) {x : Int32} : CSi G V mX6_streak cX6_streak (rmD 9 9 54) [.ref (ad V o), .int x] s lo (fun v s' => hPost o s ((fAsk (fun z => pStk z)) h x) v s') (hExc [xIO] h ((fAsk (fun z => pStk z)) h x)) := by
  refine CSi.of (L := [some (.ref (ad V o)), some (.int x)]) rfl (by decide +kernel) rfl (Nat.le_of_ble_eq_true rfl) rfl ?_
  refine rAload_n dX6_streak_0 rfl ?_
  refine rIload_n dX6_streak_1 rfl ?_
  refine sCallVXq (M' := mX6_playerOf) (rm' := rmD 6 1 6) (As := [.int x]) (rest := []) rfl dX6_streak_2 rfl mk_X6_playerOf mi_X6_playerOf ll_X6_57 ⟨(Nat.le_of_ble_eq_true rfl), (Nat.le_of_ble_eq_true rfl)⟩ ho.1 (by decide) rfl rfl (Nat.le_of_ble_eq_true rfl) (Nat.le_of_ble_eq_true rfl) (c_X6_playerOf ho hfl) rfl (Nat.le_of_ble_eq_true rfl) rfl (by rintro E ⟨rfl, e⟩; refine ⟨?_, 0, ?_, rfl⟩ <;> simp only [fAsk, e]) (fun P qp => ?_)
  obtain ⟨p, hp, rfl, eP⟩ := qp
  have ip : idx 4 (nI p) = some p := idx_nI hp (by decide)
  have aP : plAt V P := eP ▸ ho.2.2.2.2.2.2.2 p hp
  have yP : plIs s P (hY h p) := eP ▸ hh.2.2.1 p hp
  refine sGetI (x := (pStk (hY h p))) dX6_streak_5 fl_X6_179 aP.1 (by decide) rfl (by rw [yP.2.2.2.1]) ?_
  have hF : fAsk (fun z => pStk z) h (nI p) = (0, pStk (hY h p), h) := by simp only [fAsk, ip]
  rw [hF]
  exact sIret dX6_streak_8 rfl rfl (Nat.le_of_ble_eq_true rfl) (Nat.le_of_ble_eq_true rfl) ⟨_, rfl, ⟨rfl, rfl, hh, hFr.refl⟩⟩
set_option maxRecDepth 100000 in
set_option maxHeartbeats 4000000 in
theorem c_X6_shopAt {G : gG} {V : wV} {lo : Nat → Int64} {o : Nat} (ho : hallAt V o) {s : sgT} {h : hT} (hh : hallIs s o h) (hfl : (gl G).stackTraces = false) {x y : Int32} : CSi G V mX6_shopAt cX6_shopAt (rmD 9 9 54) [.ref (ad V o), .int x, .int y] s lo (fun v s' => hPost o s (fShop h x y) v s') (hExc [xIO] h (fShop h x y)) := by
  refine CSi.of (L := [some (.ref (ad V o)), some (.int x), some (.int y), none]) rfl (by decide +kernel) rfl (Nat.le_of_ble_eq_true rfl) rfl ?_
  refine rAload_n dX6_shopAt_0 rfl ?_
  refine rIload_n dX6_shopAt_1 rfl ?_
  refine sCallVXq (M' := mX6_playerOf) (rm' := rmD 6 1 6) (As := [.int x]) (rest := []) rfl dX6_shopAt_2 rfl mk_X6_playerOf mi_X6_playerOf ll_X6_57 ⟨(Nat.le_of_ble_eq_true rfl), (Nat.le_of_ble_eq_true rfl)⟩ ho.1 (by decide) rfl rfl (Nat.le_of_ble_eq_true rfl) (Nat.le_of_ble_eq_true rfl) (c_X6_playerOf ho hfl) rfl (Nat.le_of_ble_eq_true rfl) rfl (by rintro E ⟨rfl, e⟩; refine ⟨?_, 0, ?_, rfl⟩ <;> simp only [fShop, fAsk2, e]) (fun P qp => ?_)
  obtain ⟨p, hp, rfl, eP⟩ := qp
  have ip : idx 4 (nI p) = some p := idx_nI hp (by decide)
  have aP : plAt V P := eP ▸ ho.2.2.2.2.2.2.2 p hp
  have yP : plIs s P (hY h p) := eP ▸ hh.2.2.1 p hp
  refine rAstore_n dX6_shopAt_5 (by decide) ?_
  refine rIload_n dX6_shopAt_6 rfl ?_
  refine sCallSXu (M' := mX6_requireSlot) (rm' := rmD 6 1 6) (As := [.int y]) (rest := []) rfl dX6_shopAt_7 rfl mk_X6_requireSlot ms_X6_requireSlot ll_X6_81 ⟨(Nat.le_of_ble_eq_true rfl), (Nat.le_of_ble_eq_true rfl)⟩ rfl (Nat.le_of_ble_eq_true rfl) (Nat.le_of_ble_eq_true rfl) (c_X6_requireSlot hfl) rfl (Nat.le_of_ble_eq_true rfl) rfl (by rintro E ⟨rfl, e⟩; refine ⟨?_, 0, ?_, rfl⟩ <;> simp only [fShop, fAsk2, ip, e]) (fun qj => ?_)
  obtain ⟨j, hj, rfl⟩ := qj
  have hF : fShop h (nI p) (nI j) = (0, shI (pShp (hY h p) j), h) := by simp only [fShop, fAsk2, ip, idx_nI hj (by decide)]
  rw [hF]
  refine rAload_n dX6_shopAt_10 rfl ?_
  refine sGetR dX6_shopAt_11 fl_X6_85 aP.1 (by decide) rfl ?_
  refine rIload_n dX6_shopAt_14 rfl ?_
  refine nIald (v := (shI (pShp (hY h p) j))) dX6_shopAt_15 aP.2.1 (by omega) (by omega) (by rw [yP.2.2.2.2.2.1 j hj]) ?_
  exact sIret dX6_shopAt_16 rfl rfl (Nat.le_of_ble_eq_true rfl) (Nat.le_of_ble_eq_true rfl) ⟨_, rfl, ⟨rfl, rfl, hh, hFr.refl⟩⟩
set_option maxRecDepth 100000 in
set_option maxHeartbeats 4000000 in
theorem c_X6_benchAt {G : gG} {V : wV} {lo : Nat → Int64} {o : Nat} (ho : hallAt V o) {s : sgT} {h : hT} (hh : hallIs s o h) {B : Nat} (hok : hallOk B h) (hB : B ≤ 19000) (hfl : (gl G).stackTraces = false) {x y : Int32} : CSi G V mX6_benchAt cX6_benchAt (rmD 9 9 54) [.ref (ad V o), .int x, .int y] s lo (fun v s' => hPost o s (fBenA h x y) v s') (hExc [xIO] h (fBenA h x y)) := by
  refine CSi.of (L := [some (.ref (ad V o)), some (.int x), some (.int y), none]) rfl (by decide +kernel) rfl (Nat.le_of_ble_eq_true rfl) rfl ?_
  refine rAload_n dX6_benchAt_0 rfl ?_
  refine rIload_n dX6_benchAt_1 rfl ?_
  refine sCallVXq (M' := mX6_playerOf) (rm' := rmD 6 1 6) (As := [.int x]) (rest := []) rfl dX6_benchAt_2 rfl mk_X6_playerOf mi_X6_playerOf ll_X6_57 ⟨(Nat.le_of_ble_eq_true rfl), (Nat.le_of_ble_eq_true rfl)⟩ ho.1 (by decide) rfl rfl (Nat.le_of_ble_eq_true rfl) (Nat.le_of_ble_eq_true rfl) (c_X6_playerOf ho hfl) rfl (Nat.le_of_ble_eq_true rfl) rfl (by rintro E ⟨rfl, e⟩; refine ⟨?_, 0, ?_, rfl⟩ <;> simp only [fBenA, fAsk2, e]) (fun P qp => ?_)
  obtain ⟨p, hp, rfl, eP⟩ := qp
  have ip : idx 4 (nI p) = some p := idx_nI hp (by decide)
  have aP : plAt V P := eP ▸ ho.2.2.2.2.2.2.2 p hp
  have yP : plIs s P (hY h p) := eP ▸ hh.2.2.1 p hp
  obtain ⟨o1, o2, o3, o4, o5, o6, o7, o8, o9⟩ := hok.2.2.1 p hp
  refine rAstore_n dX6_benchAt_5 (by decide) ?_
  refine rIload_n dX6_benchAt_6 rfl ?_
  refine r_if_lt (tgt := 16) dX6_benchAt_7 (by decide) (fun c_7 => ?_) (fun c_7 => ?_)
  · exact sThrow hfl rfl xl_X6_184 dX6_benchAt_16 dX6_benchAt_19 dX6_benchAt_20 dX6_benchAt_22 dX6_benchAt_25 (Nat.le_of_ble_eq_true rfl) (Nat.le_of_ble_eq_true rfl) (Nat.le_of_ble_eq_true rfl) (Nat.le_of_ble_eq_true rfl) rfl ⟨by simp only [fBenA, fAsk2, ip, idx_neg c_7], 0, by simp only [fBenA, fAsk2, ip, idx_neg c_7], rfl⟩
  · obtain ⟨j, hj31, rfl⟩ := nI_of c_7
    refine rIload_n dX6_benchAt_10 rfl ?_
    refine rBipush (v := (nI (6))) dX6_benchAt_11 (by decide) ?_
    refine r_icmp_lt (tgt := 26) dX6_benchAt_13 (by decide) (fun c_13 => ?_) (fun c_13 => ?_)
    · have c_13 : j < 6 := (nI_ltI (by omega) (by omega)).mp c_13
      refine rAload_n dX6_benchAt_26 rfl ?_
      refine sGetR dX6_benchAt_27 fl_X6_98 aP.1 (by decide) rfl ?_
      refine rIload_n dX6_benchAt_30 rfl ?_
      refine sCallVp (M' := mX5_unitAt) (rm' := rmD 2 0 0) (As := [.int (nI j)]) (rest := []) dX6_benchAt_31 rfl mk_X5_unitAt mi_X5_unitAt ll_X6_187 ⟨(Nat.le_of_ble_eq_true rfl), (Nat.le_of_ble_eq_true rfl)⟩ aP.2.2.1.1 (by decide) rfl rfl (Nat.le_of_ble_eq_true rfl) (Nat.le_of_ble_eq_true rfl) (c_X5_unitAt aP.2.2.1 (by omega) (by omega) yP.2.2.2.2.2.2.1 o6 hj31) rfl (Nat.le_of_ble_eq_true rfl) (fun v e => ?_)
      have hF : fBenA h (nI p) (nI j) = (0, rowU (pBen (hY h p)) j, h) := by simp only [fBenA, fAsk2, ip, idx_nI c_13 (by decide)]
      rw [hF]
      exact sIret dX6_benchAt_34 rfl rfl (Nat.le_of_ble_eq_true rfl) (Nat.le_of_ble_eq_true rfl) ⟨_, rfl, ⟨rfl, by rcases e with ⟨e, rfl⟩ | ⟨e, rfl⟩ <;> simp [rowU, e], hh, hFr.refl⟩⟩
    · have c_13 : ¬ (j < 6) := fun h => c_13 ((nI_ltI (by omega) (by omega)).mpr h)
      exact sThrow hfl rfl xl_X6_184 dX6_benchAt_16 dX6_benchAt_19 dX6_benchAt_20 dX6_benchAt_22 dX6_benchAt_25 (Nat.le_of_ble_eq_true rfl) (Nat.le_of_ble_eq_true rfl) (Nat.le_of_ble_eq_true rfl) (Nat.le_of_ble_eq_true rfl) rfl ⟨by simp only [fBenA, fAsk2, ip, idx_no (show 6 ≤ j by omega) hj31], 0, by simp only [fBenA, fAsk2, ip, idx_no (show 6 ≤ j by omega) hj31], rfl⟩
set_option maxRecDepth 100000 in
set_option maxHeartbeats 4000000 in
theorem c_X6_boardAt {G : gG} {V : wV} {lo : Nat → Int64} {o : Nat} (ho : hallAt V o) {s : sgT} {h : hT} (hh : hallIs s o h) {B : Nat} (hok : hallOk B h) (hB : B ≤ 19000) (hfl : (gl G).stackTraces = false) {x y : Int32} : CSi G V mX6_boardAt cX6_boardAt (rmD 9 9 54) [.ref (ad V o), .int x, .int y] s lo (fun v s' => hPost o s (fBrdA h x y) v s') (hExc [xIO] h (fBrdA h x y)) := by
  refine CSi.of (L := [some (.ref (ad V o)), some (.int x), some (.int y), none]) rfl (by decide +kernel) rfl (Nat.le_of_ble_eq_true rfl) rfl ?_
  refine rAload_n dX6_boardAt_0 rfl ?_
  refine rIload_n dX6_boardAt_1 rfl ?_
  refine sCallVXq (M' := mX6_playerOf) (rm' := rmD 6 1 6) (As := [.int x]) (rest := []) rfl dX6_boardAt_2 rfl mk_X6_playerOf mi_X6_playerOf ll_X6_57 ⟨(Nat.le_of_ble_eq_true rfl), (Nat.le_of_ble_eq_true rfl)⟩ ho.1 (by decide) rfl rfl (Nat.le_of_ble_eq_true rfl) (Nat.le_of_ble_eq_true rfl) (c_X6_playerOf ho hfl) rfl (Nat.le_of_ble_eq_true rfl) rfl (by rintro E ⟨rfl, e⟩; refine ⟨?_, 0, ?_, rfl⟩ <;> simp only [fBrdA, fAsk2, e]) (fun P qp => ?_)
  obtain ⟨p, hp, rfl, eP⟩ := qp
  have ip : idx 4 (nI p) = some p := idx_nI hp (by decide)
  have aP : plAt V P := eP ▸ ho.2.2.2.2.2.2.2 p hp
  have yP : plIs s P (hY h p) := eP ▸ hh.2.2.1 p hp
  obtain ⟨o1, o2, o3, o4, o5, o6, o7, o8, o9⟩ := hok.2.2.1 p hp
  refine rAstore_n dX6_boardAt_5 (by decide) ?_
  refine rIload_n dX6_boardAt_6 rfl ?_
  refine r_if_lt (tgt := 15) dX6_boardAt_7 (by decide) (fun c_7 => ?_) (fun c_7 => ?_)
  · exact sThrow hfl rfl xl_X6_190 dX6_boardAt_15 dX6_boardAt_18 dX6_boardAt_19 dX6_boardAt_21 dX6_boardAt_24 (Nat.le_of_ble_eq_true rfl) (Nat.le_of_ble_eq_true rfl) (Nat.le_of_ble_eq_true rfl) (Nat.le_of_ble_eq_true rfl) rfl ⟨by simp only [fBrdA, fAsk2, ip, idx_neg c_7], 0, by simp only [fBrdA, fAsk2, ip, idx_neg c_7], rfl⟩
  · obtain ⟨j, hj31, rfl⟩ := nI_of c_7
    refine rIload_n dX6_boardAt_10 rfl ?_
    refine rIconst (v := (nI (5))) dX6_boardAt_11 (by decide) ?_
    refine r_icmp_lt (tgt := 25) dX6_boardAt_12 (by decide) (fun c_12 => ?_) (fun c_12 => ?_)
    · have c_12 : j < 5 := (nI_ltI (by omega) (by omega)).mp c_12
      refine rAload_n dX6_boardAt_25 rfl ?_
      refine sGetR dX6_boardAt_26 fl_X6_135 aP.1 (by decide) rfl ?_
      refine rIload_n dX6_boardAt_29 rfl ?_
      refine sCallVp (M' := mX5_unitAt) (rm' := rmD 2 0 0) (As := [.int (nI j)]) (rest := []) dX6_boardAt_30 rfl mk_X5_unitAt mi_X5_unitAt ll_X6_187 ⟨(Nat.le_of_ble_eq_true rfl), (Nat.le_of_ble_eq_true rfl)⟩ aP.2.2.2.1 (by decide) rfl rfl (Nat.le_of_ble_eq_true rfl) (Nat.le_of_ble_eq_true rfl) (c_X5_unitAt aP.2.2.2 (by omega) (by omega) yP.2.2.2.2.2.2.2 o7 hj31) rfl (Nat.le_of_ble_eq_true rfl) (fun v e => ?_)
      have hF : fBrdA h (nI p) (nI j) = (0, rowU (pBrd (hY h p)) j, h) := by simp only [fBrdA, fAsk2, ip, idx_nI c_12 (by decide)]
      rw [hF]
      exact sIret dX6_boardAt_33 rfl rfl (Nat.le_of_ble_eq_true rfl) (Nat.le_of_ble_eq_true rfl) ⟨_, rfl, ⟨rfl, by rcases e with ⟨e, rfl⟩ | ⟨e, rfl⟩ <;> simp [rowU, e], hh, hFr.refl⟩⟩
    · have c_12 : ¬ (j < 5) := fun h => c_12 ((nI_ltI (by omega) (by omega)).mpr h)
      exact sThrow hfl rfl xl_X6_190 dX6_boardAt_15 dX6_boardAt_18 dX6_boardAt_19 dX6_boardAt_21 dX6_boardAt_24 (Nat.le_of_ble_eq_true rfl) (Nat.le_of_ble_eq_true rfl) (Nat.le_of_ble_eq_true rfl) (Nat.le_of_ble_eq_true rfl) rfl ⟨by simp only [fBrdA, fAsk2, ip, idx_no (show 5 ≤ j by omega) hj31], 0, by simp only [fBrdA, fAsk2, ip, idx_no (show 5 ≤ j by omega) hj31], rfl⟩
set_option maxRecDepth 100000 in
set_option maxHeartbeats 4000000 in
theorem c_X6_blow {G : gG} {V : wV} {lo : Nat → Int64} {o : Nat} (ho : hallAt V o) {s : sgT} {h : hT} (hh : hallIs s o h) {B : Nat} (hok : hallOk B h) (hB : B ≤ 19000) (hfl : (gl G).stackTraces = false) {x y : Int32} : CSi G V mX6_blow cX6_blow (rmD 9 9 54) [.ref (ad V o), .int x, .int y] s lo (fun v s' => hPost o s (fBlow h x y) v s') (hExc [xIO] h (fBlow h x y)) := by
  refine CSi.of (L := [some (.ref (ad V o)), some (.int x), some (.int y), none]) rfl (by decide +kernel) rfl (Nat.le_of_ble_eq_true rfl) rfl ?_
  refine rAload_n dX6_blow_0 rfl ?_
  refine rIload_n dX6_blow_1 rfl ?_
  refine sCallVXq (M' := mX6_playerOf) (rm' := rmD 6 1 6) (As := [.int x]) (rest := []) rfl dX6_blow_2 rfl mk_X6_playerOf mi_X6_playerOf ll_X6_57 ⟨(Nat.le_of_ble_eq_true rfl), (Nat.le_of_ble_eq_true rfl)⟩ ho.1 (by decide) rfl rfl (Nat.le_of_ble_eq_true rfl) (Nat.le_of_ble_eq_true rfl) (c_X6_playerOf ho hfl) rfl (Nat.le_of_ble_eq_true rfl) rfl (by rintro E ⟨rfl, e⟩; refine ⟨?_, 0, ?_, rfl⟩ <;> simp only [fBlow, fAsk2, e]) (fun P qp => ?_)
  obtain ⟨p, hp, rfl, eP⟩ := qp
  have ip : idx 4 (nI p) = some p := idx_nI hp (by decide)
  have aP : plAt V P := eP ▸ ho.2.2.2.2.2.2.2 p hp
  have yP : plIs s P (hY h p) := eP ▸ hh.2.2.1 p hp
  obtain ⟨o1, o2, o3, o4, o5, o6, o7, o8, o9⟩ := hok.2.2.1 p hp
  refine rAstore_n dX6_blow_5 (by decide) ?_
  refine rAload_n dX6_blow_6 rfl ?_
  refine sGetR dX6_blow_7 fl_X6_135 aP.1 (by decide) rfl ?_
  refine rIload_n dX6_blow_10 rfl ?_
  refine sCallSXu (M' := mX6_requireUnit) (rm' := rmD 6 1 6) (As := [.ref (ad V (P + 5)), .int y]) (rest := []) rfl dX6_blow_11 rfl mk_X6_requireUnit ms_X6_requireUnit ll_X6_112 ⟨(Nat.le_of_ble_eq_true rfl), (Nat.le_of_ble_eq_true rfl)⟩ rfl (Nat.le_of_ble_eq_true rfl) (Nat.le_of_ble_eq_true rfl) (c_X6_requireUnit aP.2.2.2 (by omega) (by omega) yP.2.2.2.2.2.2.2 o7 hfl) rfl (Nat.le_of_ble_eq_true rfl) rfl (by rintro E ⟨rfl, e⟩; refine ⟨?_, 0, ?_, rfl⟩ <;> simp only [fBlow, fAsk2, ip, e]) (fun qj => ?_)
  obtain ⟨j, hj, rfl⟩ := qj
  have ij : idx (pBrd (hY h p)).length (nI j) = some j := idx_nI hj (by omega)
  refine rAload_n dX6_blow_14 rfl ?_
  refine sGetR dX6_blow_15 fl_X6_135 aP.1 (by decide) rfl ?_
  refine rIload_n dX6_blow_18 rfl ?_
  refine sCallVp (M' := mX5_strengthAt) (rm' := rmD 2 0 0) (As := [.int (nI j)]) (rest := []) dX6_blow_19 rfl mk_X5_strengthAt mi_X5_strengthAt ll_X6_192 ⟨(Nat.le_of_ble_eq_true rfl), (Nat.le_of_ble_eq_true rfl)⟩ aP.2.2.2.1 (by decide) rfl rfl (Nat.le_of_ble_eq_true rfl) (Nat.le_of_ble_eq_true rfl) (c_X5_strengthAt aP.2.2.2 (by omega) (by omega) yP.2.2.2.2.2.2.2 o7 hj) rfl (Nat.le_of_ble_eq_true rfl) (fun v e => ?_)
  have hF : fBlow h (nI p) (nI j) = (0, nI (strN (pBrd (hY h p)) ((pBrd (hY h p)).getD j 0)), h) := by simp only [fBlow, fAsk2, ip, ij]
  rw [hF]
  exact sIret dX6_blow_22 rfl rfl (Nat.le_of_ble_eq_true rfl) (Nat.le_of_ble_eq_true rfl) ⟨_, rfl, ⟨rfl, e, hh, hFr.refl⟩⟩
set_option maxRecDepth 100000 in
set_option maxHeartbeats 4000000 in
theorem c_X6_pool {G : gG} {V : wV} {lo : Nat → Int64} {o : Nat} (ho : hallAt V o) {s : sgT} {h : hT} (hh : hallIs s o h) (hfl : (gl G).stackTraces = false) {x : Int32} : CSi G V mX6_pool cX6_pool (rmD 9 9 54) [.ref (ad V o), .int x] s lo (fun v s' => hPost o s (fPool h x) v s') (hExc [xIO] h (fPool h x)) := by
  refine CSi.of (L := [some (.ref (ad V o)), some (.int x)]) rfl (by decide +kernel) rfl (Nat.le_of_ble_eq_true rfl) rfl ?_
  refine rIload_n dX6_pool_0 rfl ?_
  refine sCallSXu (M' := mX6_requireKind) (rm' := rmD 6 1 6) (As := [.int x]) (rest := []) rfl dX6_pool_1 rfl mk_X6_requireKind ms_X6_requireKind ll_X6_195 ⟨(Nat.le_of_ble_eq_true rfl), (Nat.le_of_ble_eq_true rfl)⟩ rfl (Nat.le_of_ble_eq_true rfl) (Nat.le_of_ble_eq_true rfl) (c_X6_requireKind hfl) rfl (Nat.le_of_ble_eq_true rfl) rfl (by rintro E ⟨rfl, e⟩; refine ⟨?_, 0, ?_, rfl⟩ <;> simp only [fPool, e]) (fun qk => ?_)
  obtain ⟨k, hk, rfl⟩ := qk
  have hF : fPool h (nI k) = (0, nI (hP h k), h) := by simp only [fPool, idx_nI hk (by decide)]
  rw [hF]
  refine rAload_n dX6_pool_4 rfl ?_
  refine sGetR dX6_pool_5 fl_X6_18 ho.1 (by decide) rfl ?_
  refine sGetR dX6_pool_8 fl_X6_198 ho.2.2.1 (by decide) rfl ?_
  refine rIload_n dX6_pool_11 rfl ?_
  refine nIald (v := (nI (hP h k))) dX6_pool_12 ho.2.2.2.1 (by omega) (by omega) (by rw [hh.2.1 k hk]) ?_
  exact sIret dX6_pool_13 rfl rfl (Nat.le_of_ble_eq_true rfl) (Nat.le_of_ble_eq_true rfl) ⟨_, rfl, ⟨rfl, rfl, hh, hFr.refl⟩⟩
set_option maxRecDepth 100000 in
set_option maxHeartbeats 4000000 in
theorem c_X6_out {G : gG} {V : wV} {lo : Nat → Int64} {o : Nat} (ho : hallAt V o) {s : sgT} {h : hT} (hh : hallIs s o h) {B : Nat} (hok : hallOk B h) (hB : B ≤ 19000) (hfl : (gl G).stackTraces = false) {x : Int32} : CSi G V mX6_out cX6_out (rmD 9 9 54) [.ref (ad V o), .int x] s lo (fun v s' => hPost o s (fOut h x) v s') (hExc [xIO] h (fOut h x)) := by
  refine CSi.of (L := [some (.ref (ad V o)), some (.int x), none, none]) rfl (by decide +kernel) rfl (Nat.le_of_ble_eq_true rfl) rfl ?_
  refine rIload_n dX6_out_0 rfl ?_
  refine sCallSXu (M' := mX6_requireKind) (rm' := rmD 6 1 6) (As := [.int x]) (rest := []) rfl dX6_out_1 rfl mk_X6_requireKind ms_X6_requireKind ll_X6_195 ⟨(Nat.le_of_ble_eq_true rfl), (Nat.le_of_ble_eq_true rfl)⟩ rfl (Nat.le_of_ble_eq_true rfl) (Nat.le_of_ble_eq_true rfl) (c_X6_requireKind hfl) rfl (Nat.le_of_ble_eq_true rfl) rfl (by rintro E ⟨rfl, e⟩; refine ⟨?_, 0, ?_, rfl⟩ <;> simp only [fOut, e]) (fun qk => ?_)
  obtain ⟨k, hk, rfl⟩ := qk
  have hF : fOut h (nI k) = (0, nI (outN h k 4), h) := by simp only [fOut, idx_nI hk (by decide)]
  rw [hF]
  refine rIconst (v := (nI (0))) dX6_out_4 (by decide) ?_
  refine rIstore_n dX6_out_5 (by decide) ?_
  refine rIconst (v := (nI (0))) dX6_out_6 (by decide) ?_
  refine rIstore_n dX6_out_7 (by decide) ?_
  refine loopW (σ := Unit) (4) (fun i _ => [some (.ref (ad V o)), some (.int (nI k)), some (.int (nI (outN h k i))), some (.int (nI i))]) (fun i _ => s) (fun i _ => True) (0) () (by omega) trivial (fun i _ hi hinv ih => ?_)
  refine rIload_n dX6_out_8 rfl ?_
  refine rIconst (v := (nI (4))) dX6_out_9 (by decide) ?_
  refine r_icmp_ge (tgt := 32) dX6_out_10 (by decide) (fun c_10 => ?_) (fun c_10 => ?_)
  · have c_10 : 4 ≤ i := (nI_leI (by omega) (by omega)).mp c_10
    refine rIload_n dX6_out_32 rfl ?_
    have e : i = 4 := by omega
    subst e
    exact sIret dX6_out_33 rfl rfl (Nat.le_of_ble_eq_true rfl) (Nat.le_of_ble_eq_true rfl) ⟨_, rfl, ⟨rfl, rfl, hh, hFr.refl⟩⟩
  · have c_10 : ¬ (4 ≤ i) := fun h => c_10 ((nI_leI (by omega) (by omega)).mpr h)
    refine rIload_n dX6_out_13 rfl ?_
    refine rAload_n dX6_out_14 rfl ?_
    refine sGetR dX6_out_15 fl_X6_11 ho.1 (by decide) rfl ?_
    refine rIload_n dX6_out_18 rfl ?_
    refine nAald (b := o + 15 + 8 * i) dX6_out_19 ho.2.1 (by omega) (by omega) (hall_pl (by omega)) ?_
    refine rIload_n dX6_out_20 rfl ?_
    refine sCallVp (M' := mX2_unitsHeld) (rm' := rmD 3 0 0) (As := [.int (nI k)]) (rest := [.int (nI (outN h k i))]) dX6_out_21 rfl mk_X2_unitsHeld mi_X2_unitsHeld ll_X6_201 ⟨(Nat.le_of_ble_eq_true rfl), (Nat.le_of_ble_eq_true rfl)⟩ (ho.2.2.2.2.2.2.2 i (by omega)).1 (by decide) rfl rfl (Nat.le_of_ble_eq_true rfl) (Nat.le_of_ble_eq_true rfl) (c_X2_unitsHeld (ho.2.2.2.2.2.2.2 i (by omega)) (hh.2.2.1 i (by omega)) (hok.2.2.1 i (by omega)) (by omega)) rfl (Nat.le_of_ble_eq_true rfl) (fun v e => ?_)
    refine tTop (w := (nI (heldN (pBen (hY h i)) k + heldN (pBrd (hY h i)) k + shpN (pShp (hY h i)) k 3))) e ?_
    refine nIadd dX6_out_24 ?_
    refine rIstore_n dX6_out_25 (by decide) ?_
    refine rIinc (v := (nI (i + 1))) dX6_out_26 rfl (by first | exact nI_add _ _ | rfl) (by decide) ?_
    refine rGoto (tgt := 8) dX6_out_29 (by decide) ?_
    exact ih (by omega) () trivial
set_option maxRecDepth 100000 in
set_option maxHeartbeats 4000000 in
theorem c_X6_rounds {G : gG} {V : wV} {lo : Nat → Int64} {o : Nat} (ho : hallAt V o) {s : sgT} {h : hT} (hh : hallIs s o h) (hfl : (gl G).stackTraces = false)  : CSi G V mX6_rounds cX6_rounds (rmD 9 9 54) [.ref (ad V o)] s lo (fun v s' => hPost o s ((fun h => (0, nI (hR h), h)) h) v s') (hExc [] h ((fun h => (0, nI (hR h), h)) h)) := by
  refine CSi.of (L := [some (.ref (ad V o))]) rfl (by decide +kernel) rfl (Nat.le_of_ble_eq_true rfl) rfl ?_
  refine rAload_n dX6_rounds_0 rfl ?_
  refine sGetI (x := (nI (hR h))) dX6_rounds_1 fl_X6_143 ho.1 (by decide) rfl (by rw [hh.2.2.2]) ?_
  exact sIret dX6_rounds_4 rfl rfl (Nat.le_of_ble_eq_true rfl) (Nat.le_of_ble_eq_true rfl) ⟨_, rfl, ⟨rfl, rfl, hh, hFr.refl⟩⟩
set_option maxRecDepth 100000 in
set_option maxHeartbeats 4000000 in
theorem c_X6_tell {G : gG} {V : wV} {lo : Nat → Int64} {o : Nat} (ho : hallAt V o) {s : sgT} {h : hT} (hh : hallIs s o h) {B : Nat} (hok : hallOk B h) (hB : B ≤ 19000) (hfl : (gl G).stackTraces = false) {x : Int32} : CSi G V mX6_tell cX6_tell (rmD 9 9 54) [.ref (ad V o), .int x] s lo (fun v s' => hPost o s (fTell h x) v s') (hExc [xIA, xIS] h (fTell h x)) := by
  refine CSi.of (L := [some (.ref (ad V o)), some (.int x)]) rfl (by decide +kernel) rfl (Nat.le_of_ble_eq_true rfl) rfl ?_
  refine rIload_n dX6_tell_0 rfl ?_
  refine r_if_lt (tgt := 11) dX6_tell_1 (by decide) (fun c_1 => ?_) (fun c_1 => ?_)
  · exact sThrow hfl rfl xl_X6_39 dX6_tell_11 dX6_tell_14 dX6_tell_15 dX6_tell_17 dX6_tell_20 (Nat.le_of_ble_eq_true rfl) (Nat.le_of_ble_eq_true rfl) (Nat.le_of_ble_eq_true rfl) (Nat.le_of_ble_eq_true rfl) rfl ⟨by simp only [fTell, idx_neg c_1], 0, by simp only [fTell, idx_neg c_1], rfl⟩
  · obtain ⟨n, hn31, rfl⟩ := nI_of c_1
    refine rIload_n dX6_tell_4 rfl ?_
    refine rSipush (v := (nI (1000))) dX6_tell_5 (by decide) ?_
    refine r_icmp_le (tgt := 21) dX6_tell_8 (by decide) (fun c_8 => ?_) (fun c_8 => ?_)
    · have c_8 : n ≤ 1000 := (nI_leI (by omega) (by omega)).mp c_8
      have hi : idx 1001 (nI n) = some n := idx_nI (by omega) (by decide)
      have hq : (hQ h).length ≤ 100 := (by obtain ⟨f, h1, h2, h3, h4, h5⟩ := hh.1; exact h4)
      by_cases hf : (hQ h).length = 100
      · refine rAload_n dX6_tell_21 rfl ?_
        refine sGetR dX6_tell_22 fl_X6_25 ho.1 (by decide) rfl ?_
        refine rIload_n dX6_tell_25 rfl ?_
        refine sCallVp (M' := mX1_append) (rm' := rmD 1 0 0) (As := [.int (nI n)]) (rest := []) dX6_tell_26 rfl mk_X1_append mi_X1_append ll_X6_44 ⟨(Nat.le_of_ble_eq_true rfl), (Nat.le_of_ble_eq_true rfl)⟩ ho.2.2.2.2.1 (by decide) rfl rfl (Nat.le_of_ble_eq_true rfl) (Nat.le_of_ble_eq_true rfl) (c_X1_append0 ⟨ho.2.2.2.2.1, ho.2.2.2.2.2.1⟩ hh.1 hf) rfl (Nat.le_of_ble_eq_true rfl) (fun v e => ?_)
        subst e
        refine r_if_ne (tgt := 42) dX6_tell_29 (by decide) (fun c_29 => ?_) (fun c_29 => ?_)
        · have c_29 : ¬ (0 = 0) := fun h => c_29 ((nz_eq (by omega)).mpr h)
          exact absurd rfl c_29
        · have c_29 : 0 = 0 := (nz_eq (by omega)).mp c_29
          exact sThrow hfl rfl xl_X6_50 dX6_tell_32 dX6_tell_35 dX6_tell_36 dX6_tell_38 dX6_tell_41 (Nat.le_of_ble_eq_true rfl) (Nat.le_of_ble_eq_true rfl) (Nat.le_of_ble_eq_true rfl) (Nat.le_of_ble_eq_true rfl) rfl ⟨by simp only [fTell, hi, if_pos hf], 1, by simp only [fTell, hi, if_pos hf], rfl⟩
      · refine rAload_n dX6_tell_21 rfl ?_
        refine sGetR dX6_tell_22 fl_X6_25 ho.1 (by decide) rfl ?_
        refine rIload_n dX6_tell_25 rfl ?_
        refine sCallVi (M' := mX1_append) (rm' := rmD 1 0 0) (As := [.int (nI n)]) (rest := []) dX6_tell_26 rfl mk_X1_append mi_X1_append ll_X6_44 ⟨(Nat.le_of_ble_eq_true rfl), (Nat.le_of_ble_eq_true rfl)⟩ ho.2.2.2.2.1 (by decide) rfl rfl (Nat.le_of_ble_eq_true rfl) (Nat.le_of_ble_eq_true rfl) (c_X1_append ⟨ho.2.2.2.2.1, ho.2.2.2.2.2.1⟩ hh.1 (by omega)) rfl (Nat.le_of_ble_eq_true rfl) (fun v s1 e => ?_)
        obtain ⟨e1, e2, rfl⟩ := e
        refine r_if_ne (tgt := 42) dX6_tell_29 (by decide) (fun c_29 => ?_) (fun c_29 => ?_)
        · have c_29 : ¬ (1 = 0) := fun h => c_29 ((nz_eq (by omega)).mpr h)
          have hl : s1 (o + 4) 2 = nI ((hQ h).length + 1) := (by obtain ⟨f, h1, h2, h3, h4, h5⟩ := e1; rw [h3]; simp)
          have hF : fTell h (nI n) = (0, nI ((hQ h).length + 1), hQ h ++ [n], h.2) := by simp only [fTell, hi, if_neg hf]
          rw [hF]
          refine rAload_n dX6_tell_42 rfl ?_
          refine sGetR dX6_tell_43 fl_X6_25 ho.1 (by decide) rfl ?_
          refine sGetI (x := (nI ((hQ h).length + 1))) dX6_tell_46 fl_X6_53 ho.2.2.2.2.1 (by decide) rfl (by rw [hl]) ?_
          exact sIret dX6_tell_49 rfl rfl (Nat.le_of_ble_eq_true rfl) (Nat.le_of_ble_eq_true rfl) ⟨_, rfl, ⟨rfl, rfl, ⟨e1, poolIs_keep hh.2.1 (e2 _ (by omega) (by omega)), fun p hp => plIs_keep (hh.2.2.1 p hp) (fun b h1 h2 => e2 b (by omega) (by omega)), by rw [e2 _ (by omega) (by omega)]; exact hh.2.2.2⟩, fun b hb => e2 b (by omega) (by omega)⟩⟩
        · have c_29 : 1 = 0 := (nz_eq (by omega)).mp c_29
          exact absurd c_29 (by omega)
    · have c_8 : ¬ (n ≤ 1000) := fun h => c_8 ((nI_leI (by omega) (by omega)).mpr h)
      exact sThrow hfl rfl xl_X6_39 dX6_tell_11 dX6_tell_14 dX6_tell_15 dX6_tell_17 dX6_tell_20 (Nat.le_of_ble_eq_true rfl) (Nat.le_of_ble_eq_true rfl) (Nat.le_of_ble_eq_true rfl) (Nat.le_of_ble_eq_true rfl) rfl ⟨by simp only [fTell, idx_no (show 1001 ≤ n by omega) hn31], 0, by simp only [fTell, idx_no (show 1001 ≤ n by omega) hn31], rfl⟩
set_option maxRecDepth 100000 in
set_option maxHeartbeats 4000000 in
theorem c_X6_toggleLock {G : gG} {V : wV} {lo : Nat → Int64} {o : Nat} (ho : hallAt V o) {s : sgT} {h : hT} (hh : hallIs s o h) (hfl : (gl G).stackTraces = false) {x : Int32} : CSi G V mX6_toggleLock cX6_toggleLock (rmD 9 9 54) [.ref (ad V o), .int x] s lo (fun v s' => hPost o s (fToggle h x) v s') (hExc [xIO] h (fToggle h x)) := by
  refine CSi.of (L := [some (.ref (ad V o)), some (.int x), none]) rfl (by decide +kernel) rfl (Nat.le_of_ble_eq_true rfl) rfl ?_
  refine rAload_n dX6_toggleLock_0 rfl ?_
  refine rIload_n dX6_toggleLock_1 rfl ?_
  refine sCallVXq (M' := mX6_playerOf) (rm' := rmD 6 1 6) (As := [.int x]) (rest := []) rfl dX6_toggleLock_2 rfl mk_X6_playerOf mi_X6_playerOf ll_X6_57 ⟨(Nat.le_of_ble_eq_true rfl), (Nat.le_of_ble_eq_true rfl)⟩ ho.1 (by decide) rfl rfl (Nat.le_of_ble_eq_true rfl) (Nat.le_of_ble_eq_true rfl) (c_X6_playerOf ho hfl) rfl (Nat.le_of_ble_eq_true rfl) rfl (by rintro E ⟨rfl, e⟩; refine ⟨?_, 0, ?_, rfl⟩ <;> simp only [fToggle, e]) (fun P qp => ?_)
  obtain ⟨p, hp, rfl, eP⟩ := qp
  have ip : idx 4 (nI p) = some p := idx_nI hp (by decide)
  have aP : plAt V P := eP ▸ ho.2.2.2.2.2.2.2 p hp
  have yP : plIs s P (hY h p) := eP ▸ hh.2.2.1 p hp
  have hF : fToggle h (nI p) = (0, bI (!pLck (hY h p)), setY h p (wC (hY h p) (!pLck (hY h p)))) := by simp only [fToggle, ip]
  rw [hF]
  cases hl : pLck (hY h p)
  · have hz : s P 4 = nI 0 := by rw [yP.2.2.2.2.1, hl]; rfl
    refine rAstore_n dX6_toggleLock_5 (by decide) ?_
    refine rAload_n dX6_toggleLock_6 rfl ?_
    refine rAload_n dX6_toggleLock_7 rfl ?_
    refine sGetI (x := (nI (0))) dX6_toggleLock_8 fl_X6_70 aP.1 (by decide) rfl (by rw [hz]) ?_
    refine r_if_ne (tgt := 18) dX6_toggleLock_11 (by decide) (fun c_11 => ?_) (fun c_11 => ?_)
    · have c_11 : ¬ (0 = 0) := fun h => c_11 ((nz_eq (by omega)).mpr h)
      exact absurd rfl c_11
    · have c_11 : 0 = 0 := (nz_eq (by omega)).mp c_11
      refine rIconst (v := (nI (1))) dX6_toggleLock_14 (by decide) ?_
      refine rGoto (tgt := 19) dX6_toggleLock_15 (by decide) ?_
      refine sPutI dX6_toggleLock_19 fl_X6_70 ft_X2 rfl aP.1 (by decide) rfl rfl rfl ?_
      refine rAload_n dX6_toggleLock_22 rfl ?_
      refine sGetI (x := (nI (1))) dX6_toggleLock_23 fl_X6_70 aP.1 (by decide) rfl (by rw [sw_s]) ?_
      exact sIret dX6_toggleLock_26 rfl rfl (Nat.le_of_ble_eq_true rfl) (Nat.le_of_ble_eq_true rfl) ⟨_, rfl, ⟨rfl, rfl, hallIs_P hh hp (eP ▸ plIs_wC yP rfl) (fun b hb => sw_a (by omega)), fun b hb => sw_a (by omega)⟩⟩
  · have hz : s P 4 = nI 1 := by rw [yP.2.2.2.2.1, hl]; rfl
    refine rAstore_n dX6_toggleLock_5 (by decide) ?_
    refine rAload_n dX6_toggleLock_6 rfl ?_
    refine rAload_n dX6_toggleLock_7 rfl ?_
    refine sGetI (x := (nI (1))) dX6_toggleLock_8 fl_X6_70 aP.1 (by decide) rfl (by rw [hz]) ?_
    refine r_if_ne (tgt := 18) dX6_toggleLock_11 (by decide) (fun c_11 => ?_) (fun c_11 => ?_)
    · have c_11 : ¬ (1 = 0) := fun h => c_11 ((nz_eq (by omega)).mpr h)
      refine rIconst (v := (nI (0))) dX6_toggleLock_18 (by decide) ?_
      refine sPutI dX6_toggleLock_19 fl_X6_70 ft_X2 rfl aP.1 (by decide) rfl rfl rfl ?_
      refine rAload_n dX6_toggleLock_22 rfl ?_
      refine sGetI (x := (nI (0))) dX6_toggleLock_23 fl_X6_70 aP.1 (by decide) rfl (by rw [sw_s]) ?_
      exact sIret dX6_toggleLock_26 rfl rfl (Nat.le_of_ble_eq_true rfl) (Nat.le_of_ble_eq_true rfl) ⟨_, rfl, ⟨rfl, rfl, hallIs_P hh hp (eP ▸ plIs_wC yP rfl) (fun b hb => sw_a (by omega)), fun b hb => sw_a (by omega)⟩⟩
    · have c_11 : 1 = 0 := (nz_eq (by omega)).mp c_11
      exact absurd c_11 (by decide)
set_option maxRecDepth 100000 in
set_option maxHeartbeats 4000000 in
theorem c_X6_buyLevel {G : gG} {V : wV} {lo : Nat → Int64} {o : Nat} (ho : hallAt V o) {s : sgT} {h : hT} (hh : hallIs s o h) {B : Nat} (hok : hallOk B h) (hB : B ≤ 19000) (hfl : (gl G).stackTraces = false) {x : Int32} : CSi G V mX6_buyLevel cX6_buyLevel (rmD 9 9 54) [.ref (ad V o), .int x] s lo (fun v s' => hPost o s (fLevel h x) v s') (hExc [xIO, xIS] h (fLevel h x)) := by
  refine CSi.of (L := [some (.ref (ad V o)), some (.int x), none]) rfl (by decide +kernel) rfl (Nat.le_of_ble_eq_true rfl) rfl ?_
  refine rAload_n dX6_buyLevel_0 rfl ?_
  refine rIload_n dX6_buyLevel_1 rfl ?_
  refine sCallVXq (M' := mX6_playerOf) (rm' := rmD 6 1 6) (As := [.int x]) (rest := []) rfl dX6_buyLevel_2 rfl mk_X6_playerOf mi_X6_playerOf ll_X6_57 ⟨(Nat.le_of_ble_eq_true rfl), (Nat.le_of_ble_eq_true rfl)⟩ ho.1 (by decide) rfl rfl (Nat.le_of_ble_eq_true rfl) (Nat.le_of_ble_eq_true rfl) (c_X6_playerOf ho hfl) rfl (Nat.le_of_ble_eq_true rfl) rfl (by rintro E ⟨rfl, e⟩; refine ⟨?_, 0, ?_, rfl⟩ <;> simp only [fLevel, e]) (fun P qp => ?_)
  obtain ⟨p, hp, rfl, eP⟩ := qp
  have ip : idx 4 (nI p) = some p := idx_nI hp (by decide)
  have aP : plAt V P := eP ▸ ho.2.2.2.2.2.2.2 p hp
  have yP : plIs s P (hY h p) := eP ▸ hh.2.2.1 p hp
  obtain ⟨o1, o2, o3, o4, o5, o6, o7, o8, o9⟩ := hok.2.2.1 p hp
  refine rAstore_n dX6_buyLevel_5 (by decide) ?_
  refine rAload_n dX6_buyLevel_6 rfl ?_
  refine sGetI (x := (nI (pGold (hY h p)))) dX6_buyLevel_7 fl_X6_61 aP.1 (by decide) rfl (by rw [yP.1]) ?_
  refine rIconst (v := (nI (4))) dX6_buyLevel_10 (by decide) ?_
  refine r_icmp_ge (tgt := 24) dX6_buyLevel_11 (by decide) (fun c_11 => ?_) (fun c_11 => ?_)
  · have c_11 : 4 ≤ (pGold (hY h p)) := (nI_leI (by omega) (by omega)).mp c_11
    refine rAload_n dX6_buyLevel_24 rfl ?_
    refine sGetI (x := (nI (pLev (hY h p)))) dX6_buyLevel_25 fl_X6_76 aP.1 (by decide) rfl (by rw [yP.2.1]) ?_
    refine rIconst (v := (nI (5))) dX6_buyLevel_28 (by decide) ?_
    refine r_icmp_lt (tgt := 42) dX6_buyLevel_29 (by decide) (fun c_29 => ?_) (fun c_29 => ?_)
    · have c_29 : (pLev (hY h p)) < 5 := (nI_ltI (by omega) (by omega)).mp c_29
      have hF : fLevel h (nI p) = (0, nI (pLev (hY h p) + 1), setY h p (wL (wG (hY h p) (pGold (hY h p) - 4)) (pLev (hY h p) + 1))) := by simp only [fLevel, ip, if_neg (show ¬ pGold (hY h p) < 4 by omega), if_neg (show ¬ 5 ≤ pLev (hY h p) by omega)]
      rw [hF]
      refine rAload_n dX6_buyLevel_42 rfl ?_
      refine rDup dX6_buyLevel_43 rfl ?_
      refine sGetI (x := (nI (pGold (hY h p)))) dX6_buyLevel_44 fl_X6_61 aP.1 (by decide) rfl (by rw [yP.1]) ?_
      refine rIconst (v := (nI (4))) dX6_buyLevel_47 (by decide) ?_
      refine nIsub dX6_buyLevel_48 (by omega) ?_
      refine sPutI dX6_buyLevel_49 fl_X6_61 ft_X2 rfl aP.1 (by decide) rfl rfl rfl ?_
      refine rAload_n dX6_buyLevel_52 rfl ?_
      refine rDup dX6_buyLevel_53 rfl ?_
      refine sGetI (x := (nI (pLev (hY h p)))) dX6_buyLevel_54 fl_X6_76 aP.1 (by decide) rfl (by rw [sw_i (by decide), yP.2.1]) ?_
      refine rIconst (v := (nI (1))) dX6_buyLevel_57 (by decide) ?_
      refine nIadd dX6_buyLevel_58 ?_
      refine sPutI dX6_buyLevel_59 fl_X6_76 ft_X2 rfl aP.1 (by decide) rfl rfl rfl ?_
      refine rAload_n dX6_buyLevel_62 rfl ?_
      refine sGetI (x := (nI ((pLev (hY h p)) + 1))) dX6_buyLevel_63 fl_X6_76 aP.1 (by decide) rfl (by rw [sw_s]) ?_
      exact sIret dX6_buyLevel_66 rfl rfl (Nat.le_of_ble_eq_true rfl) (Nat.le_of_ble_eq_true rfl) ⟨_, rfl, ⟨rfl, rfl, hallIs_P hh hp (eP ▸ plIs_wL (plIs_wG yP)) (fun b hb => by rw [sw_a (by omega), sw_a (by omega)]), fun b hb => by rw [sw_a (by omega), sw_a (by omega)]⟩⟩
    · have c_29 : ¬ ((pLev (hY h p)) < 5) := fun h => c_29 ((nI_ltI (by omega) (by omega)).mpr h)
      exact sThrow hfl rfl xl_X6_79 dX6_buyLevel_32 dX6_buyLevel_35 dX6_buyLevel_36 dX6_buyLevel_38 dX6_buyLevel_41 (Nat.le_of_ble_eq_true rfl) (Nat.le_of_ble_eq_true rfl) (Nat.le_of_ble_eq_true rfl) (Nat.le_of_ble_eq_true rfl) rfl ⟨by simp only [fLevel, ip, if_neg (show ¬ pGold (hY h p) < 4 by omega), if_pos (show 5 ≤ pLev (hY h p) by omega)], 1, by simp only [fLevel, ip, if_neg (show ¬ pGold (hY h p) < 4 by omega), if_pos (show 5 ≤ pLev (hY h p) by omega)], rfl⟩
  · have c_11 : ¬ (4 ≤ (pGold (hY h p))) := fun h => c_11 ((nI_leI (by omega) (by omega)).mpr h)
    exact sThrow hfl rfl xl_X6_74 dX6_buyLevel_14 dX6_buyLevel_17 dX6_buyLevel_18 dX6_buyLevel_20 dX6_buyLevel_23 (Nat.le_of_ble_eq_true rfl) (Nat.le_of_ble_eq_true rfl) (Nat.le_of_ble_eq_true rfl) (Nat.le_of_ble_eq_true rfl) rfl ⟨by simp only [fLevel, ip, if_pos (show pGold (hY h p) < 4 by omega)], 1, by simp only [fLevel, ip, if_pos (show pGold (hY h p) < 4 by omega)], rfl⟩
