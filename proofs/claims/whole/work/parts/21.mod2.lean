/-! the reference: questions, numbers, shops, levels (by program) -/
theorem nI_inj {a b : Nat} (ha : a < 2 ^ 31) (hb : b < 2 ^ 31) (e : nI a = nI b) : a = b := (nI_eq ha hb).mp e
theorem ask_no {n : Nat → Nat} {x y : Int32} (h : ¬ ∃ p, p < 4 ∧ x = nI p ∧ ∃ i, i < n p ∧ y = nI i) : idx 4 x = none ∨ ∃ p, idx 4 x = some p ∧ idx (n p) y = none := by
  by_cases c : ∃ p, p < 4 ∧ x = nI p
  · obtain ⟨p, hp, rfl⟩ := c
    exact Or.inr ⟨p, idx_nI hp (by decide), idx_not (fun ⟨i, hi, e⟩ => h ⟨p, hp, rfl, i, hi, e⟩)⟩
  · exact Or.inl (idx_not c)
theorem ask_no2 {n : Nat} {x y : Int32} (h : ¬ ((∃ p, p < 4 ∧ x = nI p) ∧ ∃ i, i < n ∧ y = nI i)) : idx 4 x = none ∨ ∃ p, idx 4 x = some p ∧ idx n y = none :=
  ask_no (n := fun _ => n) (fun ⟨p, hp, e, i, hi, e2⟩ => h ⟨⟨p, hp, e⟩, i, hi, e2⟩)
def rFr (s s' : sgT) (a b p n : Nat) : Prop := (∀ c, c ≠ a → c ≠ b → s' c = s c) ∧ (∀ j, j ≠ p → s' a j = s a j) ∧ (∀ j, j < n * p ∨ n * p + n ≤ j → s' b j = s b j)
theorem rFr.m6 {s s' : sgT} {m p : Nat} (h : rFr s s' (m + 9) (m + 10) p 6) : mPF s s' m p := by
  obtain ⟨a1, a2, a3⟩ := h
  refine ⟨a1 _ (by omega) (by omega), a1 _ (by omega) (by omega), a1 _ (by omega) (by omega), fun a i h1 h2 h3 h4 h5 => ?_, fun i _ => by rw [a1 _ (by omega) (by omega)], a3, fun i _ => by rw [a1 _ (by omega) (by omega)], fun b hb => a1 _ (by omega) (by omega)⟩
  by_cases e : a = 9
  · subst e
    exact a2 i h3
  · rw [a1 _ (by omega) (by omega)]
theorem rFr.m5 {s s' : sgT} {m p : Nat} (h : rFr s s' (m + 11) (m + 12) p 5) : mPF s s' m p := by
  obtain ⟨a1, a2, a3⟩ := h
  refine ⟨a1 _ (by omega) (by omega), a1 _ (by omega) (by omega), a1 _ (by omega) (by omega), fun a i h1 h2 h3 h4 h5 => ?_, fun i _ => by rw [a1 _ (by omega) (by omega)], fun i _ => by rw [a1 _ (by omega) (by omega)], a3, fun b hb => a1 _ (by omega) (by omega)⟩
  by_cases e : a = 11
  · subst e
    exact a2 i h3
  · rw [a1 _ (by omega) (by omega)]
theorem mpl_G {s : sgT} {m p g : Nat} {x : plT} (h : mpl s m p x) : mpl (sw s (m + 3) p (nI g)) m p (wG x g) := by
  obtain ⟨e1, e2, e3, e4, e5, e6, e7, e8⟩ := h
  exact ⟨sw_s, by rw [sw_a (by omega)]; exact e2, by rw [sw_a (by omega)]; exact e3, by rw [sw_a (by omega)]; exact e4, by rw [sw_a (by omega)]; exact e5, fun j hj => by rw [sw_a (by omega)]; exact e6 j hj, mrow_keep e7 (by rw [sw_a (by omega)]) (fun i hi => by rw [sw_a (by omega)]), mrow_keep e8 (by rw [sw_a (by omega)]) (fun i hi => by rw [sw_a (by omega)])⟩
theorem mpl_L {s : sgT} {m p g : Nat} {x : plT} (h : mpl s m p x) : mpl (sw s (m + 4) p (nI g)) m p (wL x g) := by
  obtain ⟨e1, e2, e3, e4, e5, e6, e7, e8⟩ := h
  exact ⟨by rw [sw_a (by omega)]; exact e1, sw_s, by rw [sw_a (by omega)]; exact e3, by rw [sw_a (by omega)]; exact e4, by rw [sw_a (by omega)]; exact e5, fun j hj => by rw [sw_a (by omega)]; exact e6 j hj, mrow_keep e7 (by rw [sw_a (by omega)]) (fun i hi => by rw [sw_a (by omega)]), mrow_keep e8 (by rw [sw_a (by omega)]) (fun i hi => by rw [sw_a (by omega)])⟩
theorem mpl_K {s : sgT} {m p : Nat} {g : Int32} {x : plT} (h : mpl s m p x) : mpl (sw s (m + 6) p g) m p (wK x g) := by
  obtain ⟨e1, e2, e3, e4, e5, e6, e7, e8⟩ := h
  exact ⟨by rw [sw_a (by omega)]; exact e1, by rw [sw_a (by omega)]; exact e2, by rw [sw_a (by omega)]; exact e3, sw_s, by rw [sw_a (by omega)]; exact e5, fun j hj => by rw [sw_a (by omega)]; exact e6 j hj, mrow_keep e7 (by rw [sw_a (by omega)]) (fun i hi => by rw [sw_a (by omega)]), mrow_keep e8 (by rw [sw_a (by omega)]) (fun i hi => by rw [sw_a (by omega)])⟩
theorem mpl_C {s : sgT} {m p : Nat} {v : Int32} {c : Bool} {x : plT} (h : mpl s m p x) (hv : v = bI c) : mpl (sw s (m + 8) p v) m p (wC x c) := by
  obtain ⟨e1, e2, e3, e4, e5, e6, e7, e8⟩ := h
  exact ⟨by rw [sw_a (by omega)]; exact e1, by rw [sw_a (by omega)]; exact e2, by rw [sw_a (by omega)]; exact e3, by rw [sw_a (by omega)]; exact e4, by rw [sw_s]; exact hv, fun j hj => by rw [sw_a (by omega)]; exact e6 j hj, mrow_keep e7 (by rw [sw_a (by omega)]) (fun i hi => by rw [sw_a (by omega)]), mrow_keep e8 (by rw [sw_a (by omega)]) (fun i hi => by rw [sw_a (by omega)])⟩
theorem mpl_thr {s : sgT} {m p : Nat} {v : Int32} {x : plT} (h : mpl s m p x) : mpl (sw s m 0 v) m p x := by
  obtain ⟨e1, e2, e3, e4, e5, e6, e7, e8⟩ := h
  exact ⟨by rw [sw_a (by omega)]; exact e1, by rw [sw_a (by omega)]; exact e2, by rw [sw_a (by omega)]; exact e3, by rw [sw_a (by omega)]; exact e4, by rw [sw_a (by omega)]; exact e5, fun j hj => by rw [sw_a (by omega)]; exact e6 j hj, mrow_keep e7 (by rw [sw_a (by omega)]) (fun i hi => by rw [sw_a (by omega)]), mrow_keep e8 (by rw [sw_a (by omega)]) (fun i hi => by rw [sw_a (by omega)])⟩
set_option maxRecDepth 100000 in
set_option maxHeartbeats 4000000 in
theorem c_X7_isOnBench {G : gG} {V : wV} {lo : Nat → Int64} {m : Nat} (hm : modAt V m) {s : sgT} {h : hT} (hh : modIs s m h) {B : Nat} (hok : hallOk B h) (hB : B ≤ 19000) {x y : Int32} : CSp G V mX7_isOnBench cX7_isOnBench (rmD 3 0 0) [.ref (ad V m), .int x, .int y] s lo (fun v => isB v (∃ p, p < 4 ∧ x = nI p ∧ ∃ i, i < (pBen (hY h p)).length ∧ y = nI i)) (fun _ => False) := by
  refine CSp.of (L := [some (.ref (ad V m)), some (.int x), some (.int y)]) rfl (by decide +kernel) rfl (Nat.le_of_ble_eq_true rfl) rfl ?_
  refine rIload_n dX7_isOnBench_0 rfl ?_
  refine sCallSp (M' := mX7_isPlayer) (rm' := rmD 2 0 0) (As := [.int x]) (rest := []) dX7_isOnBench_1 rfl mk_X7_isPlayer ms_X7_isPlayer ll_X7_64 ⟨(Nat.le_of_ble_eq_true rfl), (Nat.le_of_ble_eq_true rfl)⟩ rfl (Nat.le_of_ble_eq_true rfl) (Nat.le_of_ble_eq_true rfl) (c_X7_isPlayer) rfl (Nat.le_of_ble_eq_true rfl) (fun wp ep => ?_)
  rcases ep with ⟨⟨p, hp, rfl⟩, rfl⟩ | ⟨np, rfl⟩
  · have ip : idx 4 (nI p) = some p := idx_nI hp (by decide)
    have yp : mpl s m p (hY h p) := hh.2.2.2 p hp
    have bdp : mrow s (m + 11) (m + 12) p 5 (pBrd (hY h p)) := yp.2.2.2.2.2.2.1
    have bnp : mrow s (m + 9) (m + 10) p 6 (pBen (hY h p)) := yp.2.2.2.2.2.2.2
    obtain ⟨o1p, o2p, o3p, o4p, o5p, o6p, o7p, o8p, o9p⟩ := hok.2.2.1 p hp
    refine r_if_eq (tgt := 27) dX7_isOnBench_4 (by decide) (fun c_4 => ?_) (fun c_4 => ?_)
    · have c_4 : 1 = 0 := (nz_eq (by omega)).mp c_4
      exact absurd c_4 (by omega)
    · have c_4 : ¬ (1 = 0) := fun h => c_4 ((nz_eq (by omega)).mpr h)
      refine rIload_n dX7_isOnBench_7 rfl ?_
      refine rIconst (v := (nI (0))) dX7_isOnBench_8 (by decide) ?_
      refine rAload_n dX7_isOnBench_9 rfl ?_
      refine sGetR dX7_isOnBench_10 fl_X7_35 hm.1 (by decide) rfl ?_
      refine rIload_n dX7_isOnBench_13 rfl ?_
      refine nIald (v := (nI ((pBen (hY h p)).length))) dX7_isOnBench_14 hm.2.2.2.2.2.2.2.2.2.1 (by omega) (by omega) (by rw [bnp.1]) ?_
      refine rIconst (v := (nI (1))) dX7_isOnBench_15 (by decide) ?_
      refine rIsub dX7_isOnBench_16 ?_
      refine sCallSp (M' := mX7_in) (rm' := rmD 1 0 0) (As := [.int y, .int (nI 0), .int ((nI ((pBen (hY h p)).length)) - (nI (1)))]) (rest := []) dX7_isOnBench_17 rfl mk_X7_in ms_X7_in ll_X7_60 ⟨(Nat.le_of_ble_eq_true rfl), (Nat.le_of_ble_eq_true rfl)⟩ rfl (Nat.le_of_ble_eq_true rfl) (Nat.le_of_ble_eq_true rfl) (c_X7_in) rfl (Nat.le_of_ble_eq_true rfl) (fun v2 e2 => ?_)
      have e3 := e2.iff (in_iff (n := (pBen (hY h p)).length) (by omega))
      clear e2
      rcases e3 with ⟨⟨i, hi, rfl⟩, rfl⟩ | ⟨ni, rfl⟩
      · refine r_if_eq (tgt := 27) dX7_isOnBench_20 (by decide) (fun c_20 => ?_) (fun c_20 => ?_)
        · have c_20 : 1 = 0 := (nz_eq (by omega)).mp c_20
          exact absurd c_20 (by omega)
        · have c_20 : ¬ (1 = 0) := fun h => c_20 ((nz_eq (by omega)).mpr h)
          refine rIconst (v := (nI (1))) dX7_isOnBench_23 (by decide) ?_
          refine rGoto (tgt := 28) dX7_isOnBench_24 (by decide) ?_
          exact sIret dX7_isOnBench_28 rfl rfl (Nat.le_of_ble_eq_true rfl) (Nat.le_of_ble_eq_true rfl) ⟨_, rfl, rfl, Or.inl ⟨⟨p, hp, rfl, i, hi, rfl⟩, rfl⟩⟩
      · refine r_if_eq (tgt := 27) dX7_isOnBench_20 (by decide) (fun c_20 => ?_) (fun c_20 => ?_)
        · have c_20 : 0 = 0 := (nz_eq (by omega)).mp c_20
          refine rIconst (v := (nI (0))) dX7_isOnBench_27 (by decide) ?_
          exact sIret dX7_isOnBench_28 rfl rfl (Nat.le_of_ble_eq_true rfl) (Nat.le_of_ble_eq_true rfl) ⟨_, rfl, rfl, Or.inr ⟨fun ⟨p2, hp2, e, i, hi, e2⟩ => ni ⟨i, by rw [nI_inj (by omega) (by omega) e]; exact hi, e2⟩, rfl⟩⟩
        · have c_20 : ¬ (0 = 0) := fun h => c_20 ((nz_eq (by omega)).mpr h)
          exact absurd c_20 (by omega)
  · have ip := idx_not np
    refine r_if_eq (tgt := 27) dX7_isOnBench_4 (by decide) (fun c_4 => ?_) (fun c_4 => ?_)
    · have c_4 : 0 = 0 := (nz_eq (by omega)).mp c_4
      refine rIconst (v := (nI (0))) dX7_isOnBench_27 (by decide) ?_
      exact sIret dX7_isOnBench_28 rfl rfl (Nat.le_of_ble_eq_true rfl) (Nat.le_of_ble_eq_true rfl) ⟨_, rfl, rfl, Or.inr ⟨fun ⟨p2, hp2, e, _⟩ => np ⟨p2, hp2, e⟩, rfl⟩⟩
    · have c_4 : ¬ (0 = 0) := fun h => c_4 ((nz_eq (by omega)).mpr h)
      exact absurd c_4 (by omega)
set_option maxRecDepth 100000 in
set_option maxHeartbeats 4000000 in
theorem c_X7_isOnBoard {G : gG} {V : wV} {lo : Nat → Int64} {m : Nat} (hm : modAt V m) {s : sgT} {h : hT} (hh : modIs s m h) {B : Nat} (hok : hallOk B h) (hB : B ≤ 19000) {x y : Int32} : CSp G V mX7_isOnBoard cX7_isOnBoard (rmD 3 0 0) [.ref (ad V m), .int x, .int y] s lo (fun v => isB v (∃ p, p < 4 ∧ x = nI p ∧ ∃ i, i < (pBrd (hY h p)).length ∧ y = nI i)) (fun _ => False) := by
  refine CSp.of (L := [some (.ref (ad V m)), some (.int x), some (.int y)]) rfl (by decide +kernel) rfl (Nat.le_of_ble_eq_true rfl) rfl ?_
  refine rIload_n dX7_isOnBoard_0 rfl ?_
  refine sCallSp (M' := mX7_isPlayer) (rm' := rmD 2 0 0) (As := [.int x]) (rest := []) dX7_isOnBoard_1 rfl mk_X7_isPlayer ms_X7_isPlayer ll_X7_64 ⟨(Nat.le_of_ble_eq_true rfl), (Nat.le_of_ble_eq_true rfl)⟩ rfl (Nat.le_of_ble_eq_true rfl) (Nat.le_of_ble_eq_true rfl) (c_X7_isPlayer) rfl (Nat.le_of_ble_eq_true rfl) (fun wp ep => ?_)
  rcases ep with ⟨⟨p, hp, rfl⟩, rfl⟩ | ⟨np, rfl⟩
  · have ip : idx 4 (nI p) = some p := idx_nI hp (by decide)
    have yp : mpl s m p (hY h p) := hh.2.2.2 p hp
    have bdp : mrow s (m + 11) (m + 12) p 5 (pBrd (hY h p)) := yp.2.2.2.2.2.2.1
    have bnp : mrow s (m + 9) (m + 10) p 6 (pBen (hY h p)) := yp.2.2.2.2.2.2.2
    obtain ⟨o1p, o2p, o3p, o4p, o5p, o6p, o7p, o8p, o9p⟩ := hok.2.2.1 p hp
    refine r_if_eq (tgt := 27) dX7_isOnBoard_4 (by decide) (fun c_4 => ?_) (fun c_4 => ?_)
    · have c_4 : 1 = 0 := (nz_eq (by omega)).mp c_4
      exact absurd c_4 (by omega)
    · have c_4 : ¬ (1 = 0) := fun h => c_4 ((nz_eq (by omega)).mpr h)
      refine rIload_n dX7_isOnBoard_7 rfl ?_
      refine rIconst (v := (nI (0))) dX7_isOnBoard_8 (by decide) ?_
      refine rAload_n dX7_isOnBoard_9 rfl ?_
      refine sGetR dX7_isOnBoard_10 fl_X7_41 hm.1 (by decide) rfl ?_
      refine rIload_n dX7_isOnBoard_13 rfl ?_
      refine nIald (v := (nI ((pBrd (hY h p)).length))) dX7_isOnBoard_14 hm.2.2.2.2.2.2.2.2.2.2.2.1 (by omega) (by omega) (by rw [bdp.1]) ?_
      refine rIconst (v := (nI (1))) dX7_isOnBoard_15 (by decide) ?_
      refine rIsub dX7_isOnBoard_16 ?_
      refine sCallSp (M' := mX7_in) (rm' := rmD 1 0 0) (As := [.int y, .int (nI 0), .int ((nI ((pBrd (hY h p)).length)) - (nI (1)))]) (rest := []) dX7_isOnBoard_17 rfl mk_X7_in ms_X7_in ll_X7_60 ⟨(Nat.le_of_ble_eq_true rfl), (Nat.le_of_ble_eq_true rfl)⟩ rfl (Nat.le_of_ble_eq_true rfl) (Nat.le_of_ble_eq_true rfl) (c_X7_in) rfl (Nat.le_of_ble_eq_true rfl) (fun v2 e2 => ?_)
      have e3 := e2.iff (in_iff (n := (pBrd (hY h p)).length) (by omega))
      clear e2
      rcases e3 with ⟨⟨i, hi, rfl⟩, rfl⟩ | ⟨ni, rfl⟩
      · refine r_if_eq (tgt := 27) dX7_isOnBoard_20 (by decide) (fun c_20 => ?_) (fun c_20 => ?_)
        · have c_20 : 1 = 0 := (nz_eq (by omega)).mp c_20
          exact absurd c_20 (by omega)
        · have c_20 : ¬ (1 = 0) := fun h => c_20 ((nz_eq (by omega)).mpr h)
          refine rIconst (v := (nI (1))) dX7_isOnBoard_23 (by decide) ?_
          refine rGoto (tgt := 28) dX7_isOnBoard_24 (by decide) ?_
          exact sIret dX7_isOnBoard_28 rfl rfl (Nat.le_of_ble_eq_true rfl) (Nat.le_of_ble_eq_true rfl) ⟨_, rfl, rfl, Or.inl ⟨⟨p, hp, rfl, i, hi, rfl⟩, rfl⟩⟩
      · refine r_if_eq (tgt := 27) dX7_isOnBoard_20 (by decide) (fun c_20 => ?_) (fun c_20 => ?_)
        · have c_20 : 0 = 0 := (nz_eq (by omega)).mp c_20
          refine rIconst (v := (nI (0))) dX7_isOnBoard_27 (by decide) ?_
          exact sIret dX7_isOnBoard_28 rfl rfl (Nat.le_of_ble_eq_true rfl) (Nat.le_of_ble_eq_true rfl) ⟨_, rfl, rfl, Or.inr ⟨fun ⟨p2, hp2, e, i, hi, e2⟩ => ni ⟨i, by rw [nI_inj (by omega) (by omega) e]; exact hi, e2⟩, rfl⟩⟩
        · have c_20 : ¬ (0 = 0) := fun h => c_20 ((nz_eq (by omega)).mpr h)
          exact absurd c_20 (by omega)
  · have ip := idx_not np
    refine r_if_eq (tgt := 27) dX7_isOnBoard_4 (by decide) (fun c_4 => ?_) (fun c_4 => ?_)
    · have c_4 : 0 = 0 := (nz_eq (by omega)).mp c_4
      refine rIconst (v := (nI (0))) dX7_isOnBoard_27 (by decide) ?_
      exact sIret dX7_isOnBoard_28 rfl rfl (Nat.le_of_ble_eq_true rfl) (Nat.le_of_ble_eq_true rfl) ⟨_, rfl, rfl, Or.inr ⟨fun ⟨p2, hp2, e, _⟩ => np ⟨p2, hp2, e⟩, rfl⟩⟩
    · have c_4 : ¬ (0 = 0) := fun h => c_4 ((nz_eq (by omega)).mpr h)
      exact absurd c_4 (by omega)
set_option maxRecDepth 100000 in
set_option maxHeartbeats 4000000 in
theorem c_X7_shopAt {G : gG} {V : wV} {lo : Nat → Int64} {m : Nat} (hm : modAt V m) {s : sgT} {h : hT} (hh : modIs s m h) {B : Nat} (hok : hallOk B h) (hB : B ≤ 19000) {x y : Int32} : CSi G V mX7_shopAt cX7_shopAt (rmD 9 0 0) [.ref (ad V m), .int x, .int y] s lo (fun v s' => mPost m s (fShop h x y) v s') (fun _ => False) := by
  refine CSi.of (L := [some (.ref (ad V m)), some (.int x), some (.int y)]) rfl (by decide +kernel) rfl (Nat.le_of_ble_eq_true rfl) rfl ?_
  refine rAload_n dX7_shopAt_0 rfl ?_
  refine rIload_n dX7_shopAt_1 rfl ?_
  refine rIload_n dX7_shopAt_2 rfl ?_
  refine sCallSp (M' := mX7_isSlot) (rm' := rmD 3 0 0) (As := [.int x, .int y]) (rest := [.ref (ad V m)]) dX7_shopAt_3 rfl mk_X7_isSlot ms_X7_isSlot ll_X7_113 ⟨(Nat.le_of_ble_eq_true rfl), (Nat.le_of_ble_eq_true rfl)⟩ rfl (Nat.le_of_ble_eq_true rfl) (Nat.le_of_ble_eq_true rfl) (c_X7_isSlot) rfl (Nat.le_of_ble_eq_true rfl) (fun v e => ?_)
  rcases e with ⟨⟨⟨p, hp, rfl⟩, j, hj, rfl⟩, rfl⟩ | ⟨ns, rfl⟩
  · have yp : mpl s m p (hY h p) := hh.2.2.2 p hp
    have bdp : mrow s (m + 11) (m + 12) p 5 (pBrd (hY h p)) := yp.2.2.2.2.2.2.1
    have bnp : mrow s (m + 9) (m + 10) p 6 (pBen (hY h p)) := yp.2.2.2.2.2.2.2
    obtain ⟨o1p, o2p, o3p, o4p, o5p, o6p, o7p, o8p, o9p⟩ := hok.2.2.1 p hp
    refine r_if_eq (tgt := 13) dX7_shopAt_6 (by decide) (fun c_6 => ?_) (fun c_6 => ?_)
    · have c_6 : 1 = 0 := (nz_eq (by omega)).mp c_6
      exact absurd c_6 (by omega)
    · have c_6 : ¬ (1 = 0) := fun h => c_6 ((nz_eq (by omega)).mpr h)
      have hF : fShop h (nI p) (nI j) = (0, shI (pShp (hY h p) j), h) := by simp only [fShop, fAsk2, idx_nI hp (by decide : (4 : Nat) < 2 ^ 31), idx_nI hj (by decide : (3 : Nat) < 2 ^ 31)]
      rw [hF]
      refine rIconst (v := (nI (0))) dX7_shopAt_9 (by decide) ?_
      refine rGoto (tgt := 14) dX7_shopAt_10 (by decide) ?_
      refine sCallVi (M' := mX7_holds) (rm' := rmD 1 0 0) (As := [.int (nI 0)]) (rest := []) dX7_shopAt_14 rfl mk_X7_holds mi_X7_holds ll_X7_71 ⟨(Nat.le_of_ble_eq_true rfl), (Nat.le_of_ble_eq_true rfl)⟩ hm.1 (by decide) rfl rfl (Nat.le_of_ble_eq_true rfl) (Nat.le_of_ble_eq_true rfl) (c_X7_holds hm (by omega)) rfl (Nat.le_of_ble_eq_true rfl) (fun v14 t14 e14 => ?_)
      obtain ⟨rfl, rfl⟩ := e14
      refine tTop (w := (nI (1))) (if_pos rfl) ?_
      refine r_if_eq (tgt := 33) dX7_shopAt_17 (by decide) (fun c_17 => ?_) (fun c_17 => ?_)
      · have c_17 : 1 = 0 := (nz_eq (by omega)).mp c_17
        exact absurd c_17 (by omega)
      · have c_17 : ¬ (1 = 0) := fun h => c_17 ((nz_eq (by omega)).mpr h)
        refine rAload_n dX7_shopAt_20 rfl ?_
        refine sGetR dX7_shopAt_21 fl_X7_28 hm.1 (by decide) rfl ?_
        refine rIconst (v := (nI (3))) dX7_shopAt_24 (by decide) ?_
        refine rIload_n dX7_shopAt_25 rfl ?_
        refine nImul dX7_shopAt_26 ?_
        refine rIload_n dX7_shopAt_27 rfl ?_
        refine nIadd dX7_shopAt_28 ?_
        refine nIald (v := (shI (pShp (hY h p) j))) dX7_shopAt_29 hm.2.2.2.2.2.2.2.1 (by omega) (by omega) (by rw [sw_a (by omega), yp.2.2.2.2.2.1 j hj]) ?_
        refine rGoto (tgt := 34) dX7_shopAt_30 (by decide) ?_
        exact sIret dX7_shopAt_34 rfl rfl (Nat.le_of_ble_eq_true rfl) (Nat.le_of_ble_eq_true rfl) ⟨_, rfl, ⟨sw_s, fun _ => rfl, modIs_thr hh, fun b hb => sw_a (by omega)⟩⟩
  · refine r_if_eq (tgt := 13) dX7_shopAt_6 (by decide) (fun c_6 => ?_) (fun c_6 => ?_)
    · have c_6 : 0 = 0 := (nz_eq (by omega)).mp c_6
      have hF : fShop h x y = (1, 0, h) := by rcases ask_no2 ns with e | ⟨p, e, e2⟩ <;> simp only [fShop, fAsk2, *]
      rw [hF]
      refine rIconst (v := (nI (1))) dX7_shopAt_13 (by decide) ?_
      refine sCallVi (M' := mX7_holds) (rm' := rmD 1 0 0) (As := [.int (nI 1)]) (rest := []) dX7_shopAt_14 rfl mk_X7_holds mi_X7_holds ll_X7_71 ⟨(Nat.le_of_ble_eq_true rfl), (Nat.le_of_ble_eq_true rfl)⟩ hm.1 (by decide) rfl rfl (Nat.le_of_ble_eq_true rfl) (Nat.le_of_ble_eq_true rfl) (c_X7_holds hm (by omega)) rfl (Nat.le_of_ble_eq_true rfl) (fun v14 t14 e14 => ?_)
      obtain ⟨rfl, rfl⟩ := e14
      refine tTop (w := (nI (0))) (if_neg (by decide)) ?_
      refine r_if_eq (tgt := 33) dX7_shopAt_17 (by decide) (fun c_17 => ?_) (fun c_17 => ?_)
      · have c_17 : 0 = 0 := (nz_eq (by omega)).mp c_17
        refine rIconst (v := (nI (0))) dX7_shopAt_33 (by decide) ?_
        exact sIret dX7_shopAt_34 rfl rfl (Nat.le_of_ble_eq_true rfl) (Nat.le_of_ble_eq_true rfl) ⟨_, rfl, ⟨sw_s, fun e => absurd e (Nat.succ_ne_zero _), modIs_thr hh, fun b hb => sw_a (by omega)⟩⟩
      · have c_17 : ¬ (0 = 0) := fun h => c_17 ((nz_eq (by omega)).mpr h)
        exact absurd c_17 (by omega)
    · have c_6 : ¬ (0 = 0) := fun h => c_6 ((nz_eq (by omega)).mpr h)
      exact absurd c_6 (by omega)
set_option maxRecDepth 100000 in
set_option maxHeartbeats 4000000 in
theorem c_X7_benchAt {G : gG} {V : wV} {lo : Nat → Int64} {m : Nat} (hm : modAt V m) {s : sgT} {h : hT} (hh : modIs s m h) {B : Nat} (hok : hallOk B h) (hB : B ≤ 19000) {x y : Int32} : CSi G V mX7_benchAt cX7_benchAt (rmD 9 0 0) [.ref (ad V m), .int x, .int y] s lo (fun v s' => mPost m s (fBenA h x y) v s') (fun _ => False) := by
  refine CSi.of (L := [some (.ref (ad V m)), some (.int x), some (.int y)]) rfl (by decide +kernel) rfl (Nat.le_of_ble_eq_true rfl) rfl ?_
  refine rAload_n dX7_benchAt_0 rfl ?_
  refine rIload_n dX7_benchAt_1 rfl ?_
  refine sCallSp (M' := mX7_isPlayer) (rm' := rmD 2 0 0) (As := [.int x]) (rest := [.ref (ad V m)]) dX7_benchAt_2 rfl mk_X7_isPlayer ms_X7_isPlayer ll_X7_64 ⟨(Nat.le_of_ble_eq_true rfl), (Nat.le_of_ble_eq_true rfl)⟩ rfl (Nat.le_of_ble_eq_true rfl) (Nat.le_of_ble_eq_true rfl) (c_X7_isPlayer) rfl (Nat.le_of_ble_eq_true rfl) (fun wp ep => ?_)
  rcases ep with ⟨⟨p, hp, rfl⟩, rfl⟩ | ⟨np, rfl⟩
  · have ip : idx 4 (nI p) = some p := idx_nI hp (by decide)
    have yp : mpl s m p (hY h p) := hh.2.2.2 p hp
    have bdp : mrow s (m + 11) (m + 12) p 5 (pBrd (hY h p)) := yp.2.2.2.2.2.2.1
    have bnp : mrow s (m + 9) (m + 10) p 6 (pBen (hY h p)) := yp.2.2.2.2.2.2.2
    obtain ⟨o1p, o2p, o3p, o4p, o5p, o6p, o7p, o8p, o9p⟩ := hok.2.2.1 p hp
    refine r_if_eq (tgt := 21) dX7_benchAt_5 (by decide) (fun c_5 => ?_) (fun c_5 => ?_)
    · have c_5 : 1 = 0 := (nz_eq (by omega)).mp c_5
      exact absurd c_5 (by omega)
    · have c_5 : ¬ (1 = 0) := fun h => c_5 ((nz_eq (by omega)).mpr h)
      refine rIload_n dX7_benchAt_8 rfl ?_
      refine rIconst (v := (nI (0))) dX7_benchAt_9 (by decide) ?_
      refine rIconst (v := (nI (5))) dX7_benchAt_10 (by decide) ?_
      refine sCallSp (M' := mX7_in) (rm' := rmD 1 0 0) (As := [.int y, .int (nI 0), .int (nI 5)]) (rest := [.ref (ad V m)]) dX7_benchAt_11 rfl mk_X7_in ms_X7_in ll_X7_60 ⟨(Nat.le_of_ble_eq_true rfl), (Nat.le_of_ble_eq_true rfl)⟩ rfl (Nat.le_of_ble_eq_true rfl) (Nat.le_of_ble_eq_true rfl) (c_X7_in) rfl (Nat.le_of_ble_eq_true rfl) (fun v2 e2 => ?_)
      have e3 := e2.iff (in_iff (n := 6) (by decide))
      clear e2
      rcases e3 with ⟨⟨i, hi, rfl⟩, rfl⟩ | ⟨ni, rfl⟩
      · have yp : mpl s m p (hY h p) := hh.2.2.2 p hp
        have bdp : mrow s (m + 11) (m + 12) p 5 (pBrd (hY h p)) := yp.2.2.2.2.2.2.1
        have bnp : mrow s (m + 9) (m + 10) p 6 (pBen (hY h p)) := yp.2.2.2.2.2.2.2
        obtain ⟨o1p, o2p, o3p, o4p, o5p, o6p, o7p, o8p, o9p⟩ := hok.2.2.1 p hp
        refine r_if_eq (tgt := 21) dX7_benchAt_14 (by decide) (fun c_14 => ?_) (fun c_14 => ?_)
        · have c_14 : 1 = 0 := (nz_eq (by omega)).mp c_14
          exact absurd c_14 (by omega)
        · have c_14 : ¬ (1 = 0) := fun h => c_14 ((nz_eq (by omega)).mpr h)
          have hF : fBenA h (nI p) (nI i) = (0, rowU (pBen (hY h p)) i, h) := by simp only [fBenA, fAsk2, ip, idx_nI hi (by decide : (6 : Nat) < 2 ^ 31)]
          rw [hF]
          refine rIconst (v := (nI (0))) dX7_benchAt_17 (by decide) ?_
          refine rGoto (tgt := 22) dX7_benchAt_18 (by decide) ?_
          refine sCallVi (M' := mX7_holds) (rm' := rmD 1 0 0) (As := [.int (nI 0)]) (rest := []) dX7_benchAt_22 rfl mk_X7_holds mi_X7_holds ll_X7_71 ⟨(Nat.le_of_ble_eq_true rfl), (Nat.le_of_ble_eq_true rfl)⟩ hm.1 (by decide) rfl rfl (Nat.le_of_ble_eq_true rfl) (Nat.le_of_ble_eq_true rfl) (c_X7_holds hm (by omega)) rfl (Nat.le_of_ble_eq_true rfl) (fun v22 t22 e22 => ?_)
          obtain ⟨rfl, rfl⟩ := e22
          refine tTop (w := (nI (1))) (if_pos rfl) ?_
          refine r_if_ne (tgt := 30) dX7_benchAt_25 (by decide) (fun c_25 => ?_) (fun c_25 => ?_)
          · have c_25 : ¬ (1 = 0) := fun h => c_25 ((nz_eq (by omega)).mpr h)
            refine rIload_n dX7_benchAt_30 rfl ?_
            refine rAload_n dX7_benchAt_31 rfl ?_
            refine sGetR dX7_benchAt_32 fl_X7_35 hm.1 (by decide) rfl ?_
            refine rIload_n dX7_benchAt_35 rfl ?_
            refine nIald (v := (nI ((pBen (hY h p)).length))) dX7_benchAt_36 hm.2.2.2.2.2.2.2.2.2.1 (by omega) (by omega) (by rw [sw_a (by omega), bnp.1]) ?_
            refine r_icmp_ge (tgt := 54) dX7_benchAt_37 (by decide) (fun c_37 => ?_) (fun c_37 => ?_)
            · have c_37 : ((pBen (hY h p)).length) ≤ i := (nI_leI (by omega) (by omega)).mp c_37
              refine rIconst (v := (-1)) dX7_benchAt_54 (by decide) ?_
              exact sIret dX7_benchAt_55 rfl rfl (Nat.le_of_ble_eq_true rfl) (Nat.le_of_ble_eq_true rfl) ⟨_, rfl, ⟨sw_s, fun _ => (show _ = rowU _ _ from (if_neg (by omega)).symm), modIs_thr hh, fun b hb => sw_a (by omega)⟩⟩
            · have c_37 : ¬ (((pBen (hY h p)).length) ≤ i) := fun h => c_37 ((nI_leI (by omega) (by omega)).mpr h)
              refine rAload_n dX7_benchAt_40 rfl ?_
              refine sGetR dX7_benchAt_41 fl_X7_38 hm.1 (by decide) rfl ?_
              refine rBipush (v := (nI (6))) dX7_benchAt_44 (by decide) ?_
              refine rIload_n dX7_benchAt_46 rfl ?_
              refine nImul dX7_benchAt_47 ?_
              refine rIload_n dX7_benchAt_48 rfl ?_
              refine nIadd dX7_benchAt_49 ?_
              refine nIald (v := (nI ((pBen (hY h p)).getD i 0))) dX7_benchAt_50 hm.2.2.2.2.2.2.2.2.2.2.1 (by omega) (by omega) (by rw [sw_a (by omega), bnp.2 i (by omega)]) ?_
              refine rGoto (tgt := 55) dX7_benchAt_51 (by decide) ?_
              exact sIret dX7_benchAt_55 rfl rfl (Nat.le_of_ble_eq_true rfl) (Nat.le_of_ble_eq_true rfl) ⟨_, rfl, ⟨sw_s, fun _ => (show nI _ = rowU _ _ from (if_pos (by omega)).symm), modIs_thr hh, fun b hb => sw_a (by omega)⟩⟩
          · have c_25 : 1 = 0 := (nz_eq (by omega)).mp c_25
            exact absurd c_25 (by omega)
      · refine r_if_eq (tgt := 21) dX7_benchAt_14 (by decide) (fun c_14 => ?_) (fun c_14 => ?_)
        · have c_14 : 0 = 0 := (nz_eq (by omega)).mp c_14
          have hF : fBenA h (nI p) y = (1, 0, h) := by simp only [fBenA, fAsk2, ip, idx_not ni]
          rw [hF]
          refine rIconst (v := (nI (1))) dX7_benchAt_21 (by decide) ?_
          refine sCallVi (M' := mX7_holds) (rm' := rmD 1 0 0) (As := [.int (nI 1)]) (rest := []) dX7_benchAt_22 rfl mk_X7_holds mi_X7_holds ll_X7_71 ⟨(Nat.le_of_ble_eq_true rfl), (Nat.le_of_ble_eq_true rfl)⟩ hm.1 (by decide) rfl rfl (Nat.le_of_ble_eq_true rfl) (Nat.le_of_ble_eq_true rfl) (c_X7_holds hm (by omega)) rfl (Nat.le_of_ble_eq_true rfl) (fun v22 t22 e22 => ?_)
          obtain ⟨rfl, rfl⟩ := e22
          refine tTop (w := (nI (0))) (if_neg (by decide)) ?_
          refine r_if_ne (tgt := 30) dX7_benchAt_25 (by decide) (fun c_25 => ?_) (fun c_25 => ?_)
          · have c_25 : ¬ (0 = 0) := fun h => c_25 ((nz_eq (by omega)).mpr h)
            exact absurd c_25 (by omega)
          · have c_25 : 0 = 0 := (nz_eq (by omega)).mp c_25
            refine rIconst (v := (nI (0))) dX7_benchAt_28 (by decide) ?_
            exact sIret dX7_benchAt_29 rfl rfl (Nat.le_of_ble_eq_true rfl) (Nat.le_of_ble_eq_true rfl) ⟨_, rfl, ⟨sw_s, fun e => absurd e (Nat.succ_ne_zero _), modIs_thr hh, fun b hb => sw_a (by omega)⟩⟩
        · have c_14 : ¬ (0 = 0) := fun h => c_14 ((nz_eq (by omega)).mpr h)
          exact absurd c_14 (by omega)
  · have ip := idx_not np
    refine r_if_eq (tgt := 21) dX7_benchAt_5 (by decide) (fun c_5 => ?_) (fun c_5 => ?_)
    · have c_5 : 0 = 0 := (nz_eq (by omega)).mp c_5
      have hF : fBenA h x y = (1, 0, h) := by simp only [fBenA, fAsk2, ip]
      rw [hF]
      refine rIconst (v := (nI (1))) dX7_benchAt_21 (by decide) ?_
      refine sCallVi (M' := mX7_holds) (rm' := rmD 1 0 0) (As := [.int (nI 1)]) (rest := []) dX7_benchAt_22 rfl mk_X7_holds mi_X7_holds ll_X7_71 ⟨(Nat.le_of_ble_eq_true rfl), (Nat.le_of_ble_eq_true rfl)⟩ hm.1 (by decide) rfl rfl (Nat.le_of_ble_eq_true rfl) (Nat.le_of_ble_eq_true rfl) (c_X7_holds hm (by omega)) rfl (Nat.le_of_ble_eq_true rfl) (fun v22 t22 e22 => ?_)
      obtain ⟨rfl, rfl⟩ := e22
      refine tTop (w := (nI (0))) (if_neg (by decide)) ?_
      refine r_if_ne (tgt := 30) dX7_benchAt_25 (by decide) (fun c_25 => ?_) (fun c_25 => ?_)
      · have c_25 : ¬ (0 = 0) := fun h => c_25 ((nz_eq (by omega)).mpr h)
        exact absurd c_25 (by omega)
      · have c_25 : 0 = 0 := (nz_eq (by omega)).mp c_25
        refine rIconst (v := (nI (0))) dX7_benchAt_28 (by decide) ?_
        exact sIret dX7_benchAt_29 rfl rfl (Nat.le_of_ble_eq_true rfl) (Nat.le_of_ble_eq_true rfl) ⟨_, rfl, ⟨sw_s, fun e => absurd e (Nat.succ_ne_zero _), modIs_thr hh, fun b hb => sw_a (by omega)⟩⟩
    · have c_5 : ¬ (0 = 0) := fun h => c_5 ((nz_eq (by omega)).mpr h)
      exact absurd c_5 (by omega)
set_option maxRecDepth 100000 in
set_option maxHeartbeats 4000000 in
theorem c_X7_boardAt {G : gG} {V : wV} {lo : Nat → Int64} {m : Nat} (hm : modAt V m) {s : sgT} {h : hT} (hh : modIs s m h) {B : Nat} (hok : hallOk B h) (hB : B ≤ 19000) {x y : Int32} : CSi G V mX7_boardAt cX7_boardAt (rmD 9 0 0) [.ref (ad V m), .int x, .int y] s lo (fun v s' => mPost m s (fBrdA h x y) v s') (fun _ => False) := by
  refine CSi.of (L := [some (.ref (ad V m)), some (.int x), some (.int y)]) rfl (by decide +kernel) rfl (Nat.le_of_ble_eq_true rfl) rfl ?_
  refine rAload_n dX7_boardAt_0 rfl ?_
  refine rIload_n dX7_boardAt_1 rfl ?_
  refine sCallSp (M' := mX7_isPlayer) (rm' := rmD 2 0 0) (As := [.int x]) (rest := [.ref (ad V m)]) dX7_boardAt_2 rfl mk_X7_isPlayer ms_X7_isPlayer ll_X7_64 ⟨(Nat.le_of_ble_eq_true rfl), (Nat.le_of_ble_eq_true rfl)⟩ rfl (Nat.le_of_ble_eq_true rfl) (Nat.le_of_ble_eq_true rfl) (c_X7_isPlayer) rfl (Nat.le_of_ble_eq_true rfl) (fun wp ep => ?_)
  rcases ep with ⟨⟨p, hp, rfl⟩, rfl⟩ | ⟨np, rfl⟩
  · have ip : idx 4 (nI p) = some p := idx_nI hp (by decide)
    have yp : mpl s m p (hY h p) := hh.2.2.2 p hp
    have bdp : mrow s (m + 11) (m + 12) p 5 (pBrd (hY h p)) := yp.2.2.2.2.2.2.1
    have bnp : mrow s (m + 9) (m + 10) p 6 (pBen (hY h p)) := yp.2.2.2.2.2.2.2
    obtain ⟨o1p, o2p, o3p, o4p, o5p, o6p, o7p, o8p, o9p⟩ := hok.2.2.1 p hp
    refine r_if_eq (tgt := 21) dX7_boardAt_5 (by decide) (fun c_5 => ?_) (fun c_5 => ?_)
    · have c_5 : 1 = 0 := (nz_eq (by omega)).mp c_5
      exact absurd c_5 (by omega)
    · have c_5 : ¬ (1 = 0) := fun h => c_5 ((nz_eq (by omega)).mpr h)
      refine rIload_n dX7_boardAt_8 rfl ?_
      refine rIconst (v := (nI (0))) dX7_boardAt_9 (by decide) ?_
      refine rIconst (v := (nI (4))) dX7_boardAt_10 (by decide) ?_
      refine sCallSp (M' := mX7_in) (rm' := rmD 1 0 0) (As := [.int y, .int (nI 0), .int (nI 4)]) (rest := [.ref (ad V m)]) dX7_boardAt_11 rfl mk_X7_in ms_X7_in ll_X7_60 ⟨(Nat.le_of_ble_eq_true rfl), (Nat.le_of_ble_eq_true rfl)⟩ rfl (Nat.le_of_ble_eq_true rfl) (Nat.le_of_ble_eq_true rfl) (c_X7_in) rfl (Nat.le_of_ble_eq_true rfl) (fun v2 e2 => ?_)
      have e3 := e2.iff (in_iff (n := 5) (by decide))
      clear e2
      rcases e3 with ⟨⟨i, hi, rfl⟩, rfl⟩ | ⟨ni, rfl⟩
      · have yp : mpl s m p (hY h p) := hh.2.2.2 p hp
        have bdp : mrow s (m + 11) (m + 12) p 5 (pBrd (hY h p)) := yp.2.2.2.2.2.2.1
        have bnp : mrow s (m + 9) (m + 10) p 6 (pBen (hY h p)) := yp.2.2.2.2.2.2.2
        obtain ⟨o1p, o2p, o3p, o4p, o5p, o6p, o7p, o8p, o9p⟩ := hok.2.2.1 p hp
        refine r_if_eq (tgt := 21) dX7_boardAt_14 (by decide) (fun c_14 => ?_) (fun c_14 => ?_)
        · have c_14 : 1 = 0 := (nz_eq (by omega)).mp c_14
          exact absurd c_14 (by omega)
        · have c_14 : ¬ (1 = 0) := fun h => c_14 ((nz_eq (by omega)).mpr h)
          have hF : fBrdA h (nI p) (nI i) = (0, rowU (pBrd (hY h p)) i, h) := by simp only [fBrdA, fAsk2, ip, idx_nI hi (by decide : (5 : Nat) < 2 ^ 31)]
          rw [hF]
          refine rIconst (v := (nI (0))) dX7_boardAt_17 (by decide) ?_
          refine rGoto (tgt := 22) dX7_boardAt_18 (by decide) ?_
          refine sCallVi (M' := mX7_holds) (rm' := rmD 1 0 0) (As := [.int (nI 0)]) (rest := []) dX7_boardAt_22 rfl mk_X7_holds mi_X7_holds ll_X7_71 ⟨(Nat.le_of_ble_eq_true rfl), (Nat.le_of_ble_eq_true rfl)⟩ hm.1 (by decide) rfl rfl (Nat.le_of_ble_eq_true rfl) (Nat.le_of_ble_eq_true rfl) (c_X7_holds hm (by omega)) rfl (Nat.le_of_ble_eq_true rfl) (fun v22 t22 e22 => ?_)
          obtain ⟨rfl, rfl⟩ := e22
          refine tTop (w := (nI (1))) (if_pos rfl) ?_
          refine r_if_ne (tgt := 30) dX7_boardAt_25 (by decide) (fun c_25 => ?_) (fun c_25 => ?_)
          · have c_25 : ¬ (1 = 0) := fun h => c_25 ((nz_eq (by omega)).mpr h)
            refine rIload_n dX7_boardAt_30 rfl ?_
            refine rAload_n dX7_boardAt_31 rfl ?_
            refine sGetR dX7_boardAt_32 fl_X7_41 hm.1 (by decide) rfl ?_
            refine rIload_n dX7_boardAt_35 rfl ?_
            refine nIald (v := (nI ((pBrd (hY h p)).length))) dX7_boardAt_36 hm.2.2.2.2.2.2.2.2.2.2.2.1 (by omega) (by omega) (by rw [sw_a (by omega), bdp.1]) ?_
            refine r_icmp_ge (tgt := 53) dX7_boardAt_37 (by decide) (fun c_37 => ?_) (fun c_37 => ?_)
            · have c_37 : ((pBrd (hY h p)).length) ≤ i := (nI_leI (by omega) (by omega)).mp c_37
              refine rIconst (v := (-1)) dX7_boardAt_53 (by decide) ?_
              exact sIret dX7_boardAt_54 rfl rfl (Nat.le_of_ble_eq_true rfl) (Nat.le_of_ble_eq_true rfl) ⟨_, rfl, ⟨sw_s, fun _ => (show _ = rowU _ _ from (if_neg (by omega)).symm), modIs_thr hh, fun b hb => sw_a (by omega)⟩⟩
            · have c_37 : ¬ (((pBrd (hY h p)).length) ≤ i) := fun h => c_37 ((nI_leI (by omega) (by omega)).mpr h)
              refine rAload_n dX7_boardAt_40 rfl ?_
              refine sGetR dX7_boardAt_41 fl_X7_44 hm.1 (by decide) rfl ?_
              refine rIconst (v := (nI (5))) dX7_boardAt_44 (by decide) ?_
              refine rIload_n dX7_boardAt_45 rfl ?_
              refine nImul dX7_boardAt_46 ?_
              refine rIload_n dX7_boardAt_47 rfl ?_
              refine nIadd dX7_boardAt_48 ?_
              refine nIald (v := (nI ((pBrd (hY h p)).getD i 0))) dX7_boardAt_49 hm.2.2.2.2.2.2.2.2.2.2.2.2.1 (by omega) (by omega) (by rw [sw_a (by omega), bdp.2 i (by omega)]) ?_
              refine rGoto (tgt := 54) dX7_boardAt_50 (by decide) ?_
              exact sIret dX7_boardAt_54 rfl rfl (Nat.le_of_ble_eq_true rfl) (Nat.le_of_ble_eq_true rfl) ⟨_, rfl, ⟨sw_s, fun _ => (show nI _ = rowU _ _ from (if_pos (by omega)).symm), modIs_thr hh, fun b hb => sw_a (by omega)⟩⟩
          · have c_25 : 1 = 0 := (nz_eq (by omega)).mp c_25
            exact absurd c_25 (by omega)
      · refine r_if_eq (tgt := 21) dX7_boardAt_14 (by decide) (fun c_14 => ?_) (fun c_14 => ?_)
        · have c_14 : 0 = 0 := (nz_eq (by omega)).mp c_14
          have hF : fBrdA h (nI p) y = (1, 0, h) := by simp only [fBrdA, fAsk2, ip, idx_not ni]
          rw [hF]
          refine rIconst (v := (nI (1))) dX7_boardAt_21 (by decide) ?_
          refine sCallVi (M' := mX7_holds) (rm' := rmD 1 0 0) (As := [.int (nI 1)]) (rest := []) dX7_boardAt_22 rfl mk_X7_holds mi_X7_holds ll_X7_71 ⟨(Nat.le_of_ble_eq_true rfl), (Nat.le_of_ble_eq_true rfl)⟩ hm.1 (by decide) rfl rfl (Nat.le_of_ble_eq_true rfl) (Nat.le_of_ble_eq_true rfl) (c_X7_holds hm (by omega)) rfl (Nat.le_of_ble_eq_true rfl) (fun v22 t22 e22 => ?_)
          obtain ⟨rfl, rfl⟩ := e22
          refine tTop (w := (nI (0))) (if_neg (by decide)) ?_
          refine r_if_ne (tgt := 30) dX7_boardAt_25 (by decide) (fun c_25 => ?_) (fun c_25 => ?_)
          · have c_25 : ¬ (0 = 0) := fun h => c_25 ((nz_eq (by omega)).mpr h)
            exact absurd c_25 (by omega)
          · have c_25 : 0 = 0 := (nz_eq (by omega)).mp c_25
            refine rIconst (v := (nI (0))) dX7_boardAt_28 (by decide) ?_
            exact sIret dX7_boardAt_29 rfl rfl (Nat.le_of_ble_eq_true rfl) (Nat.le_of_ble_eq_true rfl) ⟨_, rfl, ⟨sw_s, fun e => absurd e (Nat.succ_ne_zero _), modIs_thr hh, fun b hb => sw_a (by omega)⟩⟩
        · have c_14 : ¬ (0 = 0) := fun h => c_14 ((nz_eq (by omega)).mpr h)
          exact absurd c_14 (by omega)
  · have ip := idx_not np
    refine r_if_eq (tgt := 21) dX7_boardAt_5 (by decide) (fun c_5 => ?_) (fun c_5 => ?_)
    · have c_5 : 0 = 0 := (nz_eq (by omega)).mp c_5
      have hF : fBrdA h x y = (1, 0, h) := by simp only [fBrdA, fAsk2, ip]
      rw [hF]
      refine rIconst (v := (nI (1))) dX7_boardAt_21 (by decide) ?_
      refine sCallVi (M' := mX7_holds) (rm' := rmD 1 0 0) (As := [.int (nI 1)]) (rest := []) dX7_boardAt_22 rfl mk_X7_holds mi_X7_holds ll_X7_71 ⟨(Nat.le_of_ble_eq_true rfl), (Nat.le_of_ble_eq_true rfl)⟩ hm.1 (by decide) rfl rfl (Nat.le_of_ble_eq_true rfl) (Nat.le_of_ble_eq_true rfl) (c_X7_holds hm (by omega)) rfl (Nat.le_of_ble_eq_true rfl) (fun v22 t22 e22 => ?_)
      obtain ⟨rfl, rfl⟩ := e22
      refine tTop (w := (nI (0))) (if_neg (by decide)) ?_
      refine r_if_ne (tgt := 30) dX7_boardAt_25 (by decide) (fun c_25 => ?_) (fun c_25 => ?_)
      · have c_25 : ¬ (0 = 0) := fun h => c_25 ((nz_eq (by omega)).mpr h)
        exact absurd c_25 (by omega)
      · have c_25 : 0 = 0 := (nz_eq (by omega)).mp c_25
        refine rIconst (v := (nI (0))) dX7_boardAt_28 (by decide) ?_
        exact sIret dX7_boardAt_29 rfl rfl (Nat.le_of_ble_eq_true rfl) (Nat.le_of_ble_eq_true rfl) ⟨_, rfl, ⟨sw_s, fun e => absurd e (Nat.succ_ne_zero _), modIs_thr hh, fun b hb => sw_a (by omega)⟩⟩
    · have c_5 : ¬ (0 = 0) := fun h => c_5 ((nz_eq (by omega)).mpr h)
      exact absurd c_5 (by omega)
set_option maxRecDepth 100000 in
set_option maxHeartbeats 4000000 in
theorem c_X7_pool {G : gG} {V : wV} {lo : Nat → Int64} {m : Nat} (hm : modAt V m) {s : sgT} {h : hT} (hh : modIs s m h) {B : Nat} (hok : hallOk B h) (hB : B ≤ 19000) {x : Int32} : CSi G V mX7_pool cX7_pool (rmD 9 0 0) [.ref (ad V m), .int x] s lo (fun v s' => mPost m s (fPool h x) v s') (fun _ => False) := by
  refine CSi.of (L := [some (.ref (ad V m)), some (.int x)]) rfl (by decide +kernel) rfl (Nat.le_of_ble_eq_true rfl) rfl ?_
  refine rAload_n dX7_pool_0 rfl ?_
  refine rIload_n dX7_pool_1 rfl ?_
  refine sCallSp (M' := mX7_isKind) (rm' := rmD 2 0 0) (As := [.int x]) (rest := [.ref (ad V m)]) dX7_pool_2 rfl mk_X7_isKind ms_X7_isKind ll_X7_166 ⟨(Nat.le_of_ble_eq_true rfl), (Nat.le_of_ble_eq_true rfl)⟩ rfl (Nat.le_of_ble_eq_true rfl) (Nat.le_of_ble_eq_true rfl) (c_X7_isKind) rfl (Nat.le_of_ble_eq_true rfl) (fun v e => ?_)
  rcases e with ⟨⟨k, hk, rfl⟩, rfl⟩ | ⟨nk, rfl⟩
  · refine r_if_eq (tgt := 12) dX7_pool_5 (by decide) (fun c_5 => ?_) (fun c_5 => ?_)
    · have c_5 : 1 = 0 := (nz_eq (by omega)).mp c_5
      exact absurd c_5 (by omega)
    · have c_5 : ¬ (1 = 0) := fun h => c_5 ((nz_eq (by omega)).mpr h)
      have hF : fPool h (nI k) = (0, nI (hP h k), h) := by simp only [fPool, idx_nI hk (by decide)]
      rw [hF]
      refine rIconst (v := (nI (0))) dX7_pool_8 (by decide) ?_
      refine rGoto (tgt := 13) dX7_pool_9 (by decide) ?_
      refine sCallVi (M' := mX7_holds) (rm' := rmD 1 0 0) (As := [.int (nI 0)]) (rest := []) dX7_pool_13 rfl mk_X7_holds mi_X7_holds ll_X7_71 ⟨(Nat.le_of_ble_eq_true rfl), (Nat.le_of_ble_eq_true rfl)⟩ hm.1 (by decide) rfl rfl (Nat.le_of_ble_eq_true rfl) (Nat.le_of_ble_eq_true rfl) (c_X7_holds hm (by omega)) rfl (Nat.le_of_ble_eq_true rfl) (fun v13 t13 e13 => ?_)
      obtain ⟨rfl, rfl⟩ := e13
      refine tTop (w := (nI (1))) (if_pos rfl) ?_
      refine r_if_eq (tgt := 28) dX7_pool_16 (by decide) (fun c_16 => ?_) (fun c_16 => ?_)
      · have c_16 : 1 = 0 := (nz_eq (by omega)).mp c_16
        exact absurd c_16 (by omega)
      · have c_16 : ¬ (1 = 0) := fun h => c_16 ((nz_eq (by omega)).mpr h)
        refine rAload_n dX7_pool_19 rfl ?_
        refine sGetR dX7_pool_20 fl_X7_13 hm.1 (by decide) rfl ?_
        refine rIload_n dX7_pool_23 rfl ?_
        refine nIald (v := (nI (hP h k))) dX7_pool_24 hm.2.2.1 (by omega) (by omega) (by rw [sw_a (by omega), hh.2.2.1 k hk]) ?_
        refine rGoto (tgt := 29) dX7_pool_25 (by decide) ?_
        exact sIret dX7_pool_29 rfl rfl (Nat.le_of_ble_eq_true rfl) (Nat.le_of_ble_eq_true rfl) ⟨_, rfl, ⟨sw_s, fun _ => rfl, modIs_thr hh, fun b hb => sw_a (by omega)⟩⟩
  · have ip := idx_not nk
    refine r_if_eq (tgt := 12) dX7_pool_5 (by decide) (fun c_5 => ?_) (fun c_5 => ?_)
    · have c_5 : 0 = 0 := (nz_eq (by omega)).mp c_5
      have hF : fPool h x = (1, 0, h) := by simp only [fPool, ip]
      rw [hF]
      refine rIconst (v := (nI (1))) dX7_pool_12 (by decide) ?_
      refine sCallVi (M' := mX7_holds) (rm' := rmD 1 0 0) (As := [.int (nI 1)]) (rest := []) dX7_pool_13 rfl mk_X7_holds mi_X7_holds ll_X7_71 ⟨(Nat.le_of_ble_eq_true rfl), (Nat.le_of_ble_eq_true rfl)⟩ hm.1 (by decide) rfl rfl (Nat.le_of_ble_eq_true rfl) (Nat.le_of_ble_eq_true rfl) (c_X7_holds hm (by omega)) rfl (Nat.le_of_ble_eq_true rfl) (fun v13 t13 e13 => ?_)
      obtain ⟨rfl, rfl⟩ := e13
      refine tTop (w := (nI (0))) (if_neg (by decide)) ?_
      refine r_if_eq (tgt := 28) dX7_pool_16 (by decide) (fun c_16 => ?_) (fun c_16 => ?_)
      · have c_16 : 0 = 0 := (nz_eq (by omega)).mp c_16
        refine rIconst (v := (nI (0))) dX7_pool_28 (by decide) ?_
        exact sIret dX7_pool_29 rfl rfl (Nat.le_of_ble_eq_true rfl) (Nat.le_of_ble_eq_true rfl) ⟨_, rfl, ⟨sw_s, fun e => absurd e (Nat.succ_ne_zero _), modIs_thr hh, fun b hb => sw_a (by omega)⟩⟩
      · have c_16 : ¬ (0 = 0) := fun h => c_16 ((nz_eq (by omega)).mpr h)
        exact absurd c_16 (by omega)
    · have c_5 : ¬ (0 = 0) := fun h => c_5 ((nz_eq (by omega)).mpr h)
      exact absurd c_5 (by omega)
set_option maxRecDepth 100000 in
set_option maxHeartbeats 4000000 in
theorem c_X7_toggleLock {G : gG} {V : wV} {lo : Nat → Int64} {m : Nat} (hm : modAt V m) {s : sgT} {h : hT} (hh : modIs s m h) {B : Nat} (hok : hallOk B h) (hB : B ≤ 19000) {x : Int32} : CSi G V mX7_toggleLock cX7_toggleLock (rmD 9 0 0) [.ref (ad V m), .int x] s lo (fun v s' => mPost m s (fToggle h x) v s') (fun _ => False) := by
  refine CSi.of (L := [some (.ref (ad V m)), some (.int x)]) rfl (by decide +kernel) rfl (Nat.le_of_ble_eq_true rfl) rfl ?_
  refine rAload_n dX7_toggleLock_0 rfl ?_
  refine rIload_n dX7_toggleLock_1 rfl ?_
  refine sCallSp (M' := mX7_isPlayer) (rm' := rmD 2 0 0) (As := [.int x]) (rest := [.ref (ad V m)]) dX7_toggleLock_2 rfl mk_X7_isPlayer ms_X7_isPlayer ll_X7_64 ⟨(Nat.le_of_ble_eq_true rfl), (Nat.le_of_ble_eq_true rfl)⟩ rfl (Nat.le_of_ble_eq_true rfl) (Nat.le_of_ble_eq_true rfl) (c_X7_isPlayer) rfl (Nat.le_of_ble_eq_true rfl) (fun wp ep => ?_)
  rcases ep with ⟨⟨p, hp, rfl⟩, rfl⟩ | ⟨np, rfl⟩
  · have ip : idx 4 (nI p) = some p := idx_nI hp (by decide)
    have yp : mpl s m p (hY h p) := hh.2.2.2 p hp
    have bdp : mrow s (m + 11) (m + 12) p 5 (pBrd (hY h p)) := yp.2.2.2.2.2.2.1
    have bnp : mrow s (m + 9) (m + 10) p 6 (pBen (hY h p)) := yp.2.2.2.2.2.2.2
    obtain ⟨o1p, o2p, o3p, o4p, o5p, o6p, o7p, o8p, o9p⟩ := hok.2.2.1 p hp
    refine r_if_eq (tgt := 12) dX7_toggleLock_5 (by decide) (fun c_5 => ?_) (fun c_5 => ?_)
    · have c_5 : 1 = 0 := (nz_eq (by omega)).mp c_5
      exact absurd c_5 (by omega)
    · have c_5 : ¬ (1 = 0) := fun h => c_5 ((nz_eq (by omega)).mpr h)
      have hF : fToggle h (nI p) = (0, bI (!pLck (hY h p)), setY h p (wC (hY h p) (!pLck (hY h p)))) := by simp only [fToggle, ip]
      rw [hF]
      refine rIconst (v := (nI (0))) dX7_toggleLock_8 (by decide) ?_
      refine rGoto (tgt := 13) dX7_toggleLock_9 (by decide) ?_
      refine sCallVi (M' := mX7_holds) (rm' := rmD 1 0 0) (As := [.int (nI 0)]) (rest := []) dX7_toggleLock_13 rfl mk_X7_holds mi_X7_holds ll_X7_71 ⟨(Nat.le_of_ble_eq_true rfl), (Nat.le_of_ble_eq_true rfl)⟩ hm.1 (by decide) rfl rfl (Nat.le_of_ble_eq_true rfl) (Nat.le_of_ble_eq_true rfl) (c_X7_holds hm (by omega)) rfl (Nat.le_of_ble_eq_true rfl) (fun v13 t13 e13 => ?_)
      obtain ⟨rfl, rfl⟩ := e13
      refine tTop (w := (nI (1))) (if_pos rfl) ?_
      refine r_if_ne (tgt := 21) dX7_toggleLock_16 (by decide) (fun c_16 => ?_) (fun c_16 => ?_)
      · have c_16 : ¬ (1 = 0) := fun h => c_16 ((nz_eq (by omega)).mpr h)
        cases hl : pLck (hY h p)
        · have hz : s (m + 8) p = nI 0 := by rw [yp.2.2.2.2.1, hl]; rfl
          refine rAload_n dX7_toggleLock_21 rfl ?_
          refine sGetR dX7_toggleLock_22 fl_X7_31 hm.1 (by decide) rfl ?_
          refine rIload_n dX7_toggleLock_25 rfl ?_
          refine rAload_n dX7_toggleLock_26 rfl ?_
          refine sGetR dX7_toggleLock_27 fl_X7_31 hm.1 (by decide) rfl ?_
          refine rIload_n dX7_toggleLock_30 rfl ?_
          refine nZald (v := (nI (0))) dX7_toggleLock_31 hm.2.2.2.2.2.2.2.2.1 (by omega) (by omega) (by rw [sw_a (by omega), hz]) ?_
          refine r_if_ne (tgt := 39) dX7_toggleLock_32 (by decide) (fun c_32 => ?_) (fun c_32 => ?_)
          · have c_32 : ¬ (0 = 0) := fun h => c_32 ((nz_eq (by omega)).mpr h)
            exact absurd c_32 (by omega)
          · have c_32 : 0 = 0 := (nz_eq (by omega)).mp c_32
            refine rIconst (v := (nI (1))) dX7_toggleLock_35 (by decide) ?_
            refine rGoto (tgt := 40) dX7_toggleLock_36 (by decide) ?_
            refine nZast dX7_toggleLock_40 hm.2.2.2.2.2.2.2.2.1 (by omega) (by omega) rfl ?_
            refine rAload_n dX7_toggleLock_41 rfl ?_
            refine sGetR dX7_toggleLock_42 fl_X7_31 hm.1 (by decide) rfl ?_
            refine rIload_n dX7_toggleLock_45 rfl ?_
            refine nZald (v := (nI (1))) dX7_toggleLock_46 hm.2.2.2.2.2.2.2.2.1 (by omega) (by omega) (by rw [sw_s]) ?_
            exact sIret dX7_toggleLock_47 rfl rfl (Nat.le_of_ble_eq_true rfl) (Nat.le_of_ble_eq_true rfl) ⟨_, rfl, ⟨by rw [sw_a (by omega), sw_s], fun _ => rfl, modIs_P (modIs_thr hh) hok (mPF_1 (a := 8) (by decide) (by decide) (by decide) (by decide)) (mpl_C (mpl_thr yp) rfl), fun b hb => by rw [sw_a (by omega), sw_a (by omega)]⟩⟩
        · have hz : s (m + 8) p = nI 1 := by rw [yp.2.2.2.2.1, hl]; rfl
          refine rAload_n dX7_toggleLock_21 rfl ?_
          refine sGetR dX7_toggleLock_22 fl_X7_31 hm.1 (by decide) rfl ?_
          refine rIload_n dX7_toggleLock_25 rfl ?_
          refine rAload_n dX7_toggleLock_26 rfl ?_
          refine sGetR dX7_toggleLock_27 fl_X7_31 hm.1 (by decide) rfl ?_
          refine rIload_n dX7_toggleLock_30 rfl ?_
          refine nZald (v := (nI (1))) dX7_toggleLock_31 hm.2.2.2.2.2.2.2.2.1 (by omega) (by omega) (by rw [sw_a (by omega), hz]) ?_
          refine r_if_ne (tgt := 39) dX7_toggleLock_32 (by decide) (fun c_32 => ?_) (fun c_32 => ?_)
          · have c_32 : ¬ (1 = 0) := fun h => c_32 ((nz_eq (by omega)).mpr h)
            refine rIconst (v := (nI (0))) dX7_toggleLock_39 (by decide) ?_
            refine nZast dX7_toggleLock_40 hm.2.2.2.2.2.2.2.2.1 (by omega) (by omega) rfl ?_
            refine rAload_n dX7_toggleLock_41 rfl ?_
            refine sGetR dX7_toggleLock_42 fl_X7_31 hm.1 (by decide) rfl ?_
            refine rIload_n dX7_toggleLock_45 rfl ?_
            refine nZald (v := (nI (0))) dX7_toggleLock_46 hm.2.2.2.2.2.2.2.2.1 (by omega) (by omega) (by rw [sw_s]) ?_
            exact sIret dX7_toggleLock_47 rfl rfl (Nat.le_of_ble_eq_true rfl) (Nat.le_of_ble_eq_true rfl) ⟨_, rfl, ⟨by rw [sw_a (by omega), sw_s], fun _ => rfl, modIs_P (modIs_thr hh) hok (mPF_1 (a := 8) (by decide) (by decide) (by decide) (by decide)) (mpl_C (mpl_thr yp) rfl), fun b hb => by rw [sw_a (by omega), sw_a (by omega)]⟩⟩
          · have c_32 : 1 = 0 := (nz_eq (by omega)).mp c_32
            exact absurd c_32 (by omega)
      · have c_16 : 1 = 0 := (nz_eq (by omega)).mp c_16
        exact absurd c_16 (by omega)
  · have ip := idx_not np
    refine r_if_eq (tgt := 12) dX7_toggleLock_5 (by decide) (fun c_5 => ?_) (fun c_5 => ?_)
    · have c_5 : 0 = 0 := (nz_eq (by omega)).mp c_5
      have hF : fToggle h x = (1, 0, h) := by simp only [fToggle, ip]
      rw [hF]
      refine rIconst (v := (nI (1))) dX7_toggleLock_12 (by decide) ?_
      refine sCallVi (M' := mX7_holds) (rm' := rmD 1 0 0) (As := [.int (nI 1)]) (rest := []) dX7_toggleLock_13 rfl mk_X7_holds mi_X7_holds ll_X7_71 ⟨(Nat.le_of_ble_eq_true rfl), (Nat.le_of_ble_eq_true rfl)⟩ hm.1 (by decide) rfl rfl (Nat.le_of_ble_eq_true rfl) (Nat.le_of_ble_eq_true rfl) (c_X7_holds hm (by omega)) rfl (Nat.le_of_ble_eq_true rfl) (fun v13 t13 e13 => ?_)
      obtain ⟨rfl, rfl⟩ := e13
      refine tTop (w := (nI (0))) (if_neg (by decide)) ?_
      refine r_if_ne (tgt := 21) dX7_toggleLock_16 (by decide) (fun c_16 => ?_) (fun c_16 => ?_)
      · have c_16 : ¬ (0 = 0) := fun h => c_16 ((nz_eq (by omega)).mpr h)
        exact absurd c_16 (by omega)
      · have c_16 : 0 = 0 := (nz_eq (by omega)).mp c_16
        refine rIconst (v := (nI (0))) dX7_toggleLock_19 (by decide) ?_
        exact sIret dX7_toggleLock_20 rfl rfl (Nat.le_of_ble_eq_true rfl) (Nat.le_of_ble_eq_true rfl) ⟨_, rfl, ⟨sw_s, fun e => absurd e (Nat.succ_ne_zero _), modIs_thr hh, fun b hb => sw_a (by omega)⟩⟩
    · have c_5 : ¬ (0 = 0) := fun h => c_5 ((nz_eq (by omega)).mpr h)
      exact absurd c_5 (by omega)
set_option maxRecDepth 100000 in
set_option maxHeartbeats 4000000 in
theorem c_X7_buyLevel {G : gG} {V : wV} {lo : Nat → Int64} {m : Nat} (hm : modAt V m) {s : sgT} {h : hT} (hh : modIs s m h) {B : Nat} (hok : hallOk B h) (hB : B ≤ 19000) {x : Int32} : CSi G V mX7_buyLevel cX7_buyLevel (rmD 9 0 0) [.ref (ad V m), .int x] s lo (fun v s' => mPost m s (fLevel h x) v s') (fun _ => False) := by
  refine CSi.of (L := [some (.ref (ad V m)), some (.int x)]) rfl (by decide +kernel) rfl (Nat.le_of_ble_eq_true rfl) rfl ?_
  refine rAload_n dX7_buyLevel_0 rfl ?_
  refine rIload_n dX7_buyLevel_1 rfl ?_
  refine sCallSp (M' := mX7_isPlayer) (rm' := rmD 2 0 0) (As := [.int x]) (rest := [.ref (ad V m)]) dX7_buyLevel_2 rfl mk_X7_isPlayer ms_X7_isPlayer ll_X7_64 ⟨(Nat.le_of_ble_eq_true rfl), (Nat.le_of_ble_eq_true rfl)⟩ rfl (Nat.le_of_ble_eq_true rfl) (Nat.le_of_ble_eq_true rfl) (c_X7_isPlayer) rfl (Nat.le_of_ble_eq_true rfl) (fun wp ep => ?_)
  rcases ep with ⟨⟨p, hp, rfl⟩, rfl⟩ | ⟨np, rfl⟩
  · have ip : idx 4 (nI p) = some p := idx_nI hp (by decide)
    have yp : mpl s m p (hY h p) := hh.2.2.2 p hp
    have bdp : mrow s (m + 11) (m + 12) p 5 (pBrd (hY h p)) := yp.2.2.2.2.2.2.1
    have bnp : mrow s (m + 9) (m + 10) p 6 (pBen (hY h p)) := yp.2.2.2.2.2.2.2
    obtain ⟨o1p, o2p, o3p, o4p, o5p, o6p, o7p, o8p, o9p⟩ := hok.2.2.1 p hp
    refine r_if_ne (tgt := 12) dX7_buyLevel_5 (by decide) (fun c_5 => ?_) (fun c_5 => ?_)
    · have c_5 : ¬ (1 = 0) := fun h => c_5 ((nz_eq (by omega)).mpr h)
      refine rAload_n dX7_buyLevel_12 rfl ?_
      refine sGetR dX7_buyLevel_13 fl_X7_16 hm.1 (by decide) rfl ?_
      refine rIload_n dX7_buyLevel_16 rfl ?_
      refine nIald (v := (nI (pGold (hY h p)))) dX7_buyLevel_17 hm.2.2.2.1 (by omega) (by omega) (by rw [yp.1]) ?_
      refine rIconst (v := (nI (4))) dX7_buyLevel_18 (by decide) ?_
      refine r_icmp_lt (tgt := 32) dX7_buyLevel_19 (by decide) (fun c_19 => ?_) (fun c_19 => ?_)
      · have c_19 : (pGold (hY h p)) < 4 := (nI_ltI (by omega) (by omega)).mp c_19
        have hF : fLevel h (nI p) = (2, 0, h) := by simp only [fLevel, ip, if_pos c_19]
        rw [hF]
        refine rIconst (v := (nI (2))) dX7_buyLevel_32 (by decide) ?_
        refine rGoto (tgt := 37) dX7_buyLevel_33 (by decide) ?_
        refine sCallVi (M' := mX7_holds) (rm' := rmD 1 0 0) (As := [.int (nI 2)]) (rest := []) dX7_buyLevel_37 rfl mk_X7_holds mi_X7_holds ll_X7_71 ⟨(Nat.le_of_ble_eq_true rfl), (Nat.le_of_ble_eq_true rfl)⟩ hm.1 (by decide) rfl rfl (Nat.le_of_ble_eq_true rfl) (Nat.le_of_ble_eq_true rfl) (c_X7_holds hm (by omega)) rfl (Nat.le_of_ble_eq_true rfl) (fun v37 t37 e37 => ?_)
        obtain ⟨rfl, rfl⟩ := e37
        refine tTop (w := (nI (0))) (if_neg (by decide)) ?_
        refine r_if_ne (tgt := 45) dX7_buyLevel_40 (by decide) (fun c_40 => ?_) (fun c_40 => ?_)
        · have c_40 : ¬ (0 = 0) := fun h => c_40 ((nz_eq (by omega)).mpr h)
          exact absurd c_40 (by omega)
        · have c_40 : 0 = 0 := (nz_eq (by omega)).mp c_40
          refine rIconst (v := (nI (0))) dX7_buyLevel_43 (by decide) ?_
          exact sIret dX7_buyLevel_44 rfl rfl (Nat.le_of_ble_eq_true rfl) (Nat.le_of_ble_eq_true rfl) ⟨_, rfl, ⟨sw_s, fun e => absurd e (Nat.succ_ne_zero _), modIs_thr hh, fun b hb => sw_a (by omega)⟩⟩
      · have c_19 : ¬ ((pGold (hY h p)) < 4) := fun h => c_19 ((nI_ltI (by omega) (by omega)).mpr h)
        refine rAload_n dX7_buyLevel_22 rfl ?_
        refine sGetR dX7_buyLevel_23 fl_X7_19 hm.1 (by decide) rfl ?_
        refine rIload_n dX7_buyLevel_26 rfl ?_
        refine nIald (v := (nI (pLev (hY h p)))) dX7_buyLevel_27 hm.2.2.2.2.1 (by omega) (by omega) (by rw [yp.2.1]) ?_
        refine rIconst (v := (nI (5))) dX7_buyLevel_28 (by decide) ?_
        refine r_icmp_ne (tgt := 36) dX7_buyLevel_29 (by decide) (fun c_29 => ?_) (fun c_29 => ?_)
        · have c_29 : ¬ ((pLev (hY h p)) = 5) := fun h => c_29 ((nI_eq (by omega) (by omega)).mpr h)
          have hF : fLevel h (nI p) = (0, nI (pLev (hY h p) + 1), setY h p (wL (wG (hY h p) (pGold (hY h p) - 4)) (pLev (hY h p) + 1))) := by simp only [fLevel, ip, if_neg c_19, if_neg (show ¬ 5 ≤ pLev (hY h p) by omega)]
          rw [hF]
          refine rIconst (v := (nI (0))) dX7_buyLevel_36 (by decide) ?_
          refine sCallVi (M' := mX7_holds) (rm' := rmD 1 0 0) (As := [.int (nI 0)]) (rest := []) dX7_buyLevel_37 rfl mk_X7_holds mi_X7_holds ll_X7_71 ⟨(Nat.le_of_ble_eq_true rfl), (Nat.le_of_ble_eq_true rfl)⟩ hm.1 (by decide) rfl rfl (Nat.le_of_ble_eq_true rfl) (Nat.le_of_ble_eq_true rfl) (c_X7_holds hm (by omega)) rfl (Nat.le_of_ble_eq_true rfl) (fun v37 t37 e37 => ?_)
          obtain ⟨rfl, rfl⟩ := e37
          refine tTop (w := (nI (1))) (if_pos rfl) ?_
          refine r_if_ne (tgt := 45) dX7_buyLevel_40 (by decide) (fun c_40 => ?_) (fun c_40 => ?_)
          · have c_40 : ¬ (1 = 0) := fun h => c_40 ((nz_eq (by omega)).mpr h)
            refine rAload_n dX7_buyLevel_45 rfl ?_
            refine sGetR dX7_buyLevel_46 fl_X7_16 hm.1 (by decide) rfl ?_
            refine rIload_n dX7_buyLevel_49 rfl ?_
            refine rDup2 dX7_buyLevel_50 rfl rfl ?_
            refine nIald (v := (nI (pGold (hY h p)))) dX7_buyLevel_51 hm.2.2.2.1 (by omega) (by omega) (by rw [sw_a (by omega), yp.1]) ?_
            refine rIconst (v := (nI (4))) dX7_buyLevel_52 (by decide) ?_
            refine nIsub dX7_buyLevel_53 (by omega) ?_
            refine nIast dX7_buyLevel_54 hm.2.2.2.1 (by omega) (by omega) ?_
            refine rAload_n dX7_buyLevel_55 rfl ?_
            refine sGetR dX7_buyLevel_56 fl_X7_19 hm.1 (by decide) rfl ?_
            refine rIload_n dX7_buyLevel_59 rfl ?_
            refine rDup2 dX7_buyLevel_60 rfl rfl ?_
            refine nIald (v := (nI (pLev (hY h p)))) dX7_buyLevel_61 hm.2.2.2.2.1 (by omega) (by omega) (by rw [sw_a (by omega), sw_a (by omega), yp.2.1]) ?_
            refine rIconst (v := (nI (1))) dX7_buyLevel_62 (by decide) ?_
            refine nIadd dX7_buyLevel_63 ?_
            refine nIast dX7_buyLevel_64 hm.2.2.2.2.1 (by omega) (by omega) ?_
            refine rAload_n dX7_buyLevel_65 rfl ?_
            refine sGetR dX7_buyLevel_66 fl_X7_19 hm.1 (by decide) rfl ?_
            refine rIload_n dX7_buyLevel_69 rfl ?_
            refine nIald (v := (nI ((pLev (hY h p)) + 1))) dX7_buyLevel_70 hm.2.2.2.2.1 (by omega) (by omega) (by rw [sw_s]) ?_
            exact sIret dX7_buyLevel_71 rfl rfl (Nat.le_of_ble_eq_true rfl) (Nat.le_of_ble_eq_true rfl) ⟨_, rfl, ⟨by simp (disch := omega) only [sw_a, sw_s, sw_i], fun _ => rfl, modIs_P (modIs_thr hh) hok ((mPF_1 (a := 3) (by decide) (by decide) (by decide) (by decide)).trans (mPF_1 (a := 4) (by decide) (by decide) (by decide) (by decide))) (mpl_L (mpl_G (mpl_thr yp))), fun b hb => by rw [sw_a (by omega), sw_a (by omega), sw_a (by omega)]⟩⟩
          · have c_40 : 1 = 0 := (nz_eq (by omega)).mp c_40
            exact absurd c_40 (by omega)
        · have c_29 : (pLev (hY h p)) = 5 := (nI_eq (by omega) (by omega)).mp c_29
          have hF : fLevel h (nI p) = (2, 0, h) := by simp only [fLevel, ip, if_neg c_19, if_pos (show 5 ≤ pLev (hY h p) by omega)]
          rw [hF]
          refine rIconst (v := (nI (2))) dX7_buyLevel_32 (by decide) ?_
          refine rGoto (tgt := 37) dX7_buyLevel_33 (by decide) ?_
          refine sCallVi (M' := mX7_holds) (rm' := rmD 1 0 0) (As := [.int (nI 2)]) (rest := []) dX7_buyLevel_37 rfl mk_X7_holds mi_X7_holds ll_X7_71 ⟨(Nat.le_of_ble_eq_true rfl), (Nat.le_of_ble_eq_true rfl)⟩ hm.1 (by decide) rfl rfl (Nat.le_of_ble_eq_true rfl) (Nat.le_of_ble_eq_true rfl) (c_X7_holds hm (by omega)) rfl (Nat.le_of_ble_eq_true rfl) (fun v37 t37 e37 => ?_)
          obtain ⟨rfl, rfl⟩ := e37
          refine tTop (w := (nI (0))) (if_neg (by decide)) ?_
          refine r_if_ne (tgt := 45) dX7_buyLevel_40 (by decide) (fun c_40 => ?_) (fun c_40 => ?_)
          · have c_40 : ¬ (0 = 0) := fun h => c_40 ((nz_eq (by omega)).mpr h)
            exact absurd c_40 (by omega)
          · have c_40 : 0 = 0 := (nz_eq (by omega)).mp c_40
            refine rIconst (v := (nI (0))) dX7_buyLevel_43 (by decide) ?_
            exact sIret dX7_buyLevel_44 rfl rfl (Nat.le_of_ble_eq_true rfl) (Nat.le_of_ble_eq_true rfl) ⟨_, rfl, ⟨sw_s, fun e => absurd e (Nat.succ_ne_zero _), modIs_thr hh, fun b hb => sw_a (by omega)⟩⟩
    · have c_5 : 1 = 0 := (nz_eq (by omega)).mp c_5
      exact absurd c_5 (by omega)
  · have ip := idx_not np
    refine r_if_ne (tgt := 12) dX7_buyLevel_5 (by decide) (fun c_5 => ?_) (fun c_5 => ?_)
    · have c_5 : ¬ (0 = 0) := fun h => c_5 ((nz_eq (by omega)).mpr h)
      exact absurd c_5 (by omega)
    · have c_5 : 0 = 0 := (nz_eq (by omega)).mp c_5
      have hF : fLevel h x = (1, 0, h) := by simp only [fLevel, ip]
      rw [hF]
      refine rIconst (v := (nI (1))) dX7_buyLevel_8 (by decide) ?_
      refine rGoto (tgt := 37) dX7_buyLevel_9 (by decide) ?_
      refine sCallVi (M' := mX7_holds) (rm' := rmD 1 0 0) (As := [.int (nI 1)]) (rest := []) dX7_buyLevel_37 rfl mk_X7_holds mi_X7_holds ll_X7_71 ⟨(Nat.le_of_ble_eq_true rfl), (Nat.le_of_ble_eq_true rfl)⟩ hm.1 (by decide) rfl rfl (Nat.le_of_ble_eq_true rfl) (Nat.le_of_ble_eq_true rfl) (c_X7_holds hm (by omega)) rfl (Nat.le_of_ble_eq_true rfl) (fun v37 t37 e37 => ?_)
      obtain ⟨rfl, rfl⟩ := e37
      refine tTop (w := (nI (0))) (if_neg (by decide)) ?_
      refine r_if_ne (tgt := 45) dX7_buyLevel_40 (by decide) (fun c_40 => ?_) (fun c_40 => ?_)
      · have c_40 : ¬ (0 = 0) := fun h => c_40 ((nz_eq (by omega)).mpr h)
        exact absurd c_40 (by omega)
      · have c_40 : 0 = 0 := (nz_eq (by omega)).mp c_40
        refine rIconst (v := (nI (0))) dX7_buyLevel_43 (by decide) ?_
        exact sIret dX7_buyLevel_44 rfl rfl (Nat.le_of_ble_eq_true rfl) (Nat.le_of_ble_eq_true rfl) ⟨_, rfl, ⟨sw_s, fun e => absurd e (Nat.succ_ne_zero _), modIs_thr hh, fun b hb => sw_a (by omega)⟩⟩
set_option maxRecDepth 100000 in
set_option maxHeartbeats 4000000 in
theorem c_X7_tell {G : gG} {V : wV} {lo : Nat → Int64} {m : Nat} (hm : modAt V m) {s : sgT} {h : hT} (hh : modIs s m h) {B : Nat} (hok : hallOk B h) (hB : B ≤ 19000) {x : Int32} : CSi G V mX7_tell cX7_tell (rmD 9 0 0) [.ref (ad V m), .int x] s lo (fun v s' => mPost m s (fTell h x) v s') (fun _ => False) := by
  refine CSi.of (L := [some (.ref (ad V m)), some (.int x)]) rfl (by decide +kernel) rfl (Nat.le_of_ble_eq_true rfl) rfl ?_
  obtain ⟨f, hf, q1, q2, q3, q4⟩ := hh.2.1
  refine rAload_n dX7_tell_0 rfl ?_
  refine rIload_n dX7_tell_1 rfl ?_
  refine rIconst (v := (nI (0))) dX7_tell_2 (by decide) ?_
  refine rSipush (v := (nI (1000))) dX7_tell_3 (by decide) ?_
  refine sCallSp (M' := mX7_in) (rm' := rmD 1 0 0) (As := [.int x, .int (nI 0), .int (nI 1000)]) (rest := [.ref (ad V m)]) dX7_tell_6 rfl mk_X7_in ms_X7_in ll_X7_60 ⟨(Nat.le_of_ble_eq_true rfl), (Nat.le_of_ble_eq_true rfl)⟩ rfl (Nat.le_of_ble_eq_true rfl) (Nat.le_of_ble_eq_true rfl) (c_X7_in) rfl (Nat.le_of_ble_eq_true rfl) (fun v e2 => ?_)
  have e3 := e2.iff (in_iff (n := 1001) (by decide))
  clear e2
  rcases e3 with ⟨⟨n, hn, rfl⟩, rfl⟩ | ⟨nn, rfl⟩
  · have i1 : idx 1001 (nI n) = some n := idx_nI hn (by decide)
    refine r_if_ne (tgt := 16) dX7_tell_9 (by decide) (fun c_9 => ?_) (fun c_9 => ?_)
    · have c_9 : ¬ (1 = 0) := fun h => c_9 ((nz_eq (by omega)).mpr h)
      refine rAload_n dX7_tell_16 rfl ?_
      refine sGetI (x := (nI ((hQ h).length))) dX7_tell_17 fl_X7_68 hm.1 (by decide) rfl (by rw [q2]) ?_
      refine rBipush (v := (nI (100))) dX7_tell_20 (by decide) ?_
      refine r_icmp_ne (tgt := 29) dX7_tell_22 (by decide) (fun c_22 => ?_) (fun c_22 => ?_)
      · have c_22 : ¬ (((hQ h).length) = 100) := fun h => c_22 ((nI_eq (by omega) (by omega)).mpr h)
        have hF : fTell h (nI n) = (0, nI ((hQ h).length + 1), hQ h ++ [n], h.2) := by simp only [fTell, i1, if_neg c_22]
        rw [hF]
        refine rIconst (v := (nI (0))) dX7_tell_29 (by decide) ?_
        refine sCallVi (M' := mX7_holds) (rm' := rmD 1 0 0) (As := [.int (nI 0)]) (rest := []) dX7_tell_30 rfl mk_X7_holds mi_X7_holds ll_X7_71 ⟨(Nat.le_of_ble_eq_true rfl), (Nat.le_of_ble_eq_true rfl)⟩ hm.1 (by decide) rfl rfl (Nat.le_of_ble_eq_true rfl) (Nat.le_of_ble_eq_true rfl) (c_X7_holds hm (by omega)) rfl (Nat.le_of_ble_eq_true rfl) (fun v30 t30 e30 => ?_)
        obtain ⟨rfl, rfl⟩ := e30
        refine tTop (w := (nI (1))) (if_pos rfl) ?_
        refine r_if_ne (tgt := 38) dX7_tell_33 (by decide) (fun c_33 => ?_) (fun c_33 => ?_)
        · have c_33 : ¬ (1 = 0) := fun h => c_33 ((nz_eq (by omega)).mpr h)
          refine rAload_n dX7_tell_38 rfl ?_
          refine sGetR dX7_tell_39 fl_X7_7 hm.1 (by decide) rfl ?_
          refine rAload_n dX7_tell_42 rfl ?_
          refine sGetI (x := (nI (f))) dX7_tell_43 fl_X7_74 hm.1 (by decide) rfl (by rw [sw_i (by decide), q1]) ?_
          refine rAload_n dX7_tell_46 rfl ?_
          refine sGetI (x := (nI ((hQ h).length))) dX7_tell_47 fl_X7_68 hm.1 (by decide) rfl (by rw [sw_i (by decide), q2]) ?_
          refine nIadd dX7_tell_50 ?_
          refine rBipush (v := (nI (100))) dX7_tell_51 (by decide) ?_
          refine nIrem dX7_tell_53 (by omega) (by decide) (by decide) ?_
          refine rIload_n dX7_tell_54 rfl ?_
          refine nIast dX7_tell_55 hm.2.1 (by omega) (by omega) ?_
          refine rAload_n dX7_tell_56 rfl ?_
          refine rDup dX7_tell_57 rfl ?_
          refine sGetI (x := (nI ((hQ h).length))) dX7_tell_58 fl_X7_68 hm.1 (by decide) rfl (by rw [sw_a (by omega), sw_i (by decide), q2]) ?_
          refine rIconst (v := (nI (1))) dX7_tell_61 (by decide) ?_
          refine nIadd dX7_tell_62 ?_
          refine sPutI dX7_tell_63 fl_X7_68 ft_X7 rfl hm.1 (by decide) rfl rfl rfl ?_
          refine rAload_n dX7_tell_66 rfl ?_
          refine sGetI (x := (nI (((hQ h).length) + 1))) dX7_tell_67 fl_X7_68 hm.1 (by decide) rfl (by rw [sw_s]) ?_
          exact sIret dX7_tell_70 rfl rfl (Nat.le_of_ble_eq_true rfl) (Nat.le_of_ble_eq_true rfl) ⟨_, rfl, ⟨by simp (disch := omega) only [sw_a, sw_s, sw_i], fun _ => rfl, ⟨by simp (disch := omega) only [sw_a, sw_s, sw_i]; exact hh.1, ⟨f, hf, by simp (disch := omega) only [sw_a, sw_s, sw_i]; exact q1, by rw [sw_s, List.length_append]; rfl, by rw [List.length_append]; simp only [List.length_singleton]; omega, fun i hi => (by
                  rw [List.length_append] at hi
                  simp only [List.length_singleton] at hi
                  rw [sw_a (by omega)]
                  rcases Nat.lt_or_ge i (hQ h).length with z | z
                  · rw [app_get z, sw_i (by omega), sw_a (by omega)]
                    exact q4 i z
                  · have e : i = (hQ h).length := by omega
                    subst e
                    rw [app_last, sw_s])⟩, fun k hk => by simp (disch := omega) only [sw_a, sw_s, sw_i]; exact hh.2.2.1 k hk, fun p hp => mpl_keep (hh.2.2.2 p hp) (hok.2.2.1 p hp) (fun a i _ _ _ _ _ => by simp (disch := omega) only [sw_a, sw_s, sw_i]) (fun i _ _ => by simp (disch := omega) only [sw_a, sw_s, sw_i]) (fun i _ _ => by simp (disch := omega) only [sw_a, sw_s, sw_i]) (fun i _ _ => by simp (disch := omega) only [sw_a, sw_s, sw_i])⟩, fun b hb => by simp (disch := omega) only [sw_a, sw_s, sw_i]⟩⟩
        · have c_33 : 1 = 0 := (nz_eq (by omega)).mp c_33
          exact absurd c_33 (by omega)
      · have c_22 : ((hQ h).length) = 100 := (nI_eq (by omega) (by omega)).mp c_22
        have hF : fTell h (nI n) = (2, 0, h) := by simp only [fTell, i1, if_pos c_22]
        rw [hF]
        refine rIconst (v := (nI (2))) dX7_tell_25 (by decide) ?_
        refine rGoto (tgt := 30) dX7_tell_26 (by decide) ?_
        refine sCallVi (M' := mX7_holds) (rm' := rmD 1 0 0) (As := [.int (nI 2)]) (rest := []) dX7_tell_30 rfl mk_X7_holds mi_X7_holds ll_X7_71 ⟨(Nat.le_of_ble_eq_true rfl), (Nat.le_of_ble_eq_true rfl)⟩ hm.1 (by decide) rfl rfl (Nat.le_of_ble_eq_true rfl) (Nat.le_of_ble_eq_true rfl) (c_X7_holds hm (by omega)) rfl (Nat.le_of_ble_eq_true rfl) (fun v30 t30 e30 => ?_)
        obtain ⟨rfl, rfl⟩ := e30
        refine tTop (w := (nI (0))) (if_neg (by decide)) ?_
        refine r_if_ne (tgt := 38) dX7_tell_33 (by decide) (fun c_33 => ?_) (fun c_33 => ?_)
        · have c_33 : ¬ (0 = 0) := fun h => c_33 ((nz_eq (by omega)).mpr h)
          exact absurd c_33 (by omega)
        · have c_33 : 0 = 0 := (nz_eq (by omega)).mp c_33
          refine rIconst (v := (nI (0))) dX7_tell_36 (by decide) ?_
          exact sIret dX7_tell_37 rfl rfl (Nat.le_of_ble_eq_true rfl) (Nat.le_of_ble_eq_true rfl) ⟨_, rfl, ⟨sw_s, fun e => absurd e (Nat.succ_ne_zero _), modIs_thr hh, fun b hb => sw_a (by omega)⟩⟩
    · have c_9 : 1 = 0 := (nz_eq (by omega)).mp c_9
      exact absurd c_9 (by omega)
  · have ip := idx_not nn
    refine r_if_ne (tgt := 16) dX7_tell_9 (by decide) (fun c_9 => ?_) (fun c_9 => ?_)
    · have c_9 : ¬ (0 = 0) := fun h => c_9 ((nz_eq (by omega)).mpr h)
      exact absurd c_9 (by omega)
    · have c_9 : 0 = 0 := (nz_eq (by omega)).mp c_9
      have hF : fTell h x = (1, 0, h) := by simp only [fTell, ip]
      rw [hF]
      refine rIconst (v := (nI (1))) dX7_tell_12 (by decide) ?_
      refine rGoto (tgt := 30) dX7_tell_13 (by decide) ?_
      refine sCallVi (M' := mX7_holds) (rm' := rmD 1 0 0) (As := [.int (nI 1)]) (rest := []) dX7_tell_30 rfl mk_X7_holds mi_X7_holds ll_X7_71 ⟨(Nat.le_of_ble_eq_true rfl), (Nat.le_of_ble_eq_true rfl)⟩ hm.1 (by decide) rfl rfl (Nat.le_of_ble_eq_true rfl) (Nat.le_of_ble_eq_true rfl) (c_X7_holds hm (by omega)) rfl (Nat.le_of_ble_eq_true rfl) (fun v30 t30 e30 => ?_)
      obtain ⟨rfl, rfl⟩ := e30
      refine tTop (w := (nI (0))) (if_neg (by decide)) ?_
      refine r_if_ne (tgt := 38) dX7_tell_33 (by decide) (fun c_33 => ?_) (fun c_33 => ?_)
      · have c_33 : ¬ (0 = 0) := fun h => c_33 ((nz_eq (by omega)).mpr h)
        exact absurd c_33 (by omega)
      · have c_33 : 0 = 0 := (nz_eq (by omega)).mp c_33
        refine rIconst (v := (nI (0))) dX7_tell_36 (by decide) ?_
        exact sIret dX7_tell_37 rfl rfl (Nat.le_of_ble_eq_true rfl) (Nat.le_of_ble_eq_true rfl) ⟨_, rfl, ⟨sw_s, fun e => absurd e (Nat.succ_ne_zero _), modIs_thr hh, fun b hb => sw_a (by omega)⟩⟩
