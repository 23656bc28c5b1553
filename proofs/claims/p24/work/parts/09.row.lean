/-- the kin among the first i of the three kinds of a kin -/
def kinI (l : List Nat) (k : Nat) : Nat → Nat
  | 0 => 0
  | i + 1 => kinI l k i + if k % 3 + 3 * i ≠ k ∧ hKb l (k % 3 + 3 * i) = true then 1 else 0
theorem kinI_s {l : List Nat} {k i : Nat} (_ : i < 3) : kinI l k (i + 1) = kinI l k i + if k % 3 + 3 * i ≠ k ∧ hKb l (k % 3 + 3 * i) = true then 1 else 0 := rfl
theorem kinI_3 {l : List Nat} {k i : Nat} (h : i = 3) : kinI l k i = kinN l k := by
  subst h
  simp [kinI, kinN]
set_option maxRecDepth 100000 in
set_option maxHeartbeats 4000000 in
theorem c_X6_costOf {G : gG} {V : wV} {lo : Nat → Int64} {s : sgT} {k : Nat} (hk : k < 2 ^ 31) : CSp G V mX6_costOf cX6_costOf (rmD 1 0 0) [.int (nI k)] s lo (fun v => v = nI (cst k)) (fun _ => False) := by
  refine CSp.of (L := [some (.int (nI k))]) rfl (by decide +kernel) rfl (Nat.le_of_ble_eq_true rfl) rfl ?_
  refine rIload_n dX6_costOf_0 rfl ?_
  refine rIconst (v := (nI (3))) dX6_costOf_1 (by decide) ?_
  refine nIdiv dX6_costOf_2 (by omega) (by decide) (by decide) ?_
  refine rIconst (v := (nI (1))) dX6_costOf_3 (by decide) ?_
  refine nIadd dX6_costOf_4 ?_
  exact sIret dX6_costOf_5 rfl rfl (Nat.le_of_ble_eq_true rfl) (Nat.le_of_ble_eq_true rfl) ⟨_, rfl, rfl, rfl⟩
set_option maxRecDepth 100000 in
set_option maxHeartbeats 4000000 in
theorem c_X6_unitsFor {G : gG} {V : wV} {lo : Nat → Int64} {s : sgT} {t : Nat} (ht : t < 2 ^ 31) : CSp G V mX6_unitsFor cX6_unitsFor (rmD 1 0 0) [.int (nI t)] s lo (fun v => v = nI (wor t)) (fun _ => False) := by
  refine CSp.of (L := [some (.int (nI t))]) rfl (by decide +kernel) rfl (Nat.le_of_ble_eq_true rfl) rfl ?_
  refine rIload_n dX6_unitsFor_0 rfl ?_
  refine rIconst (v := (nI (1))) dX6_unitsFor_1 (by decide) ?_
  refine r_icmp_ne (tgt := 7) dX6_unitsFor_2 (by decide) (fun c_2 => ?_) (fun c_2 => ?_)
  · have c_2 : ¬ (t = 1) := fun h => c_2 ((nI_eq (by omega) (by omega)).mpr h)
    refine rIload_n dX6_unitsFor_7 rfl ?_
    refine rIconst (v := (nI (2))) dX6_unitsFor_8 (by decide) ?_
    refine r_icmp_ne (tgt := 16) dX6_unitsFor_9 (by decide) (fun c_9 => ?_) (fun c_9 => ?_)
    · have c_9 : ¬ (t = 2) := fun h => c_9 ((nI_eq (by omega) (by omega)).mpr h)
      refine rBipush (v := (nI (9))) dX6_unitsFor_16 (by decide) ?_
      exact sIret dX6_unitsFor_18 rfl rfl (Nat.le_of_ble_eq_true rfl) (Nat.le_of_ble_eq_true rfl) ⟨_, rfl, rfl, (by simp only [wor]; rw [if_neg c_2, if_neg c_9])⟩
    · have c_9 : t = 2 := (nI_eq (by omega) (by omega)).mp c_9
      refine rIconst (v := (nI (3))) dX6_unitsFor_12 (by decide) ?_
      refine rGoto (tgt := 18) dX6_unitsFor_13 (by decide) ?_
      exact sIret dX6_unitsFor_18 rfl rfl (Nat.le_of_ble_eq_true rfl) (Nat.le_of_ble_eq_true rfl) ⟨_, rfl, rfl, (by simp only [wor]; rw [if_neg c_2, if_pos c_9])⟩
  · have c_2 : t = 1 := (nI_eq (by omega) (by omega)).mp c_2
    refine rIconst (v := (nI (1))) dX6_unitsFor_5 (by decide) ?_
    exact sIret dX6_unitsFor_6 rfl rfl (Nat.le_of_ble_eq_true rfl) (Nat.le_of_ble_eq_true rfl) ⟨_, rfl, rfl, (by simp only [wor]; rw [if_pos c_2])⟩
set_option maxRecDepth 100000 in
set_option maxHeartbeats 4000000 in
theorem c_X5_has {G : gG} {V : wV} {lo : Nat → Int64} {r n : Nat} {l : List Nat} (hr : rowAt V r n) (hn : n ≤ 6) (hl : l.length ≤ n) {s : sgT} (h : rowIs s r l) (ho : okR l) {x : Int32} : CSp G V mX5_has cX5_has (rmD 1 0 0) [.ref (ad V r), .int x] s lo (fun v => isB v (∃ i, i < l.length ∧ x = nI i)) (fun _ => False) := by
  refine CSp.of (L := [some (.ref (ad V r)), some (.int x)]) rfl (by decide +kernel) rfl (Nat.le_of_ble_eq_true rfl) rfl ?_
  refine rIload_n dX5_has_0 rfl ?_
  refine r_if_lt (tgt := 16) dX5_has_1 (by decide) (fun c_1 => ?_) (fun c_1 => ?_)
  · refine rIconst (v := (nI (0))) dX5_has_16 (by decide) ?_
    exact sIret dX5_has_17 rfl rfl (Nat.le_of_ble_eq_true rfl) (Nat.le_of_ble_eq_true rfl) ⟨_, rfl, rfl, (Or.inr ⟨fun q => (by obtain ⟨i, hi, rfl⟩ := q; exact nI_pos (by omega) c_1), rfl⟩)⟩
  · obtain ⟨j, hj, rfl⟩ := nI_of c_1
    refine rIload_n dX5_has_4 rfl ?_
    refine rAload_n dX5_has_5 rfl ?_
    refine sGetI (x := (nI (l.length))) dX5_has_6 fl_X5_18 hr.1 (by decide) rfl (by rw [h.1]) ?_
    refine r_icmp_ge (tgt := 16) dX5_has_9 (by decide) (fun c_9 => ?_) (fun c_9 => ?_)
    · have c_9 : (l.length) ≤ j := (nI_leI (by omega) (by omega)).mp c_9
      refine rIconst (v := (nI (0))) dX5_has_16 (by decide) ?_
      exact sIret dX5_has_17 rfl rfl (Nat.le_of_ble_eq_true rfl) (Nat.le_of_ble_eq_true rfl) ⟨_, rfl, rfl, (Or.inr ⟨fun q => (by obtain ⟨i, hi, e⟩ := q; have e := (nI_eq (by omega) (by omega)).mp e; omega), rfl⟩)⟩
    · have c_9 : ¬ ((l.length) ≤ j) := fun h => c_9 ((nI_leI (by omega) (by omega)).mpr h)
      refine rIconst (v := (nI (1))) dX5_has_12 (by decide) ?_
      refine rGoto (tgt := 17) dX5_has_13 (by decide) ?_
      exact sIret dX5_has_17 rfl rfl (Nat.le_of_ble_eq_true rfl) (Nat.le_of_ble_eq_true rfl) ⟨_, rfl, rfl, (Or.inl ⟨⟨j, by omega, rfl⟩, rfl⟩)⟩
set_option maxRecDepth 100000 in
set_option maxHeartbeats 4000000 in
theorem c_X5_append {G : gG} {V : wV} {lo : Nat → Int64} {r n : Nat} {l : List Nat} (hr : rowAt V r n) (hn : n ≤ 6) (hl : l.length ≤ n) {s : sgT} (h : rowIs s r l) (ho : okR l) (hlt : l.length < n) {u k t : Nat} (hk : u / 10 = k) (ht : u % 10 = t) : CSi G V mX5_append cX5_append (rmD 1 0 0) [.ref (ad V r), .int (nI k), .int (nI t)] s lo (fun v s' => rowIs s' r (l ++ [u]) ∧ (∀ b, b ≠ r → b ≠ r + 1 → b ≠ r + 2 → s' b = s b) ∧ v = nI 1) (fun _ => False) := by
  refine CSi.of (L := [some (.ref (ad V r)), some (.int (nI k)), some (.int (nI t))]) rfl (by decide +kernel) rfl (Nat.le_of_ble_eq_true rfl) rfl ?_
  refine rAload_n dX5_append_0 rfl ?_
  refine sGetI (x := (nI (l.length))) dX5_append_1 fl_X5_18 hr.1 (by decide) rfl (by rw [h.1]) ?_
  refine rAload_n dX5_append_4 rfl ?_
  refine sGetR dX5_append_5 fl_X5_9 hr.1 (by decide) rfl ?_
  refine sAlenI (v := nI n) dX5_append_8 hr.2.1 rfl ?_
  refine r_icmp_lt (tgt := 14) dX5_append_9 (by decide) (fun c_9 => ?_) (fun c_9 => ?_)
  · have c_9 : (l.length) < n := (nI_ltI (by omega) (by omega)).mp c_9
    refine rAload_n dX5_append_14 rfl ?_
    refine sGetR dX5_append_15 fl_X5_9 hr.1 (by decide) rfl ?_
    refine rAload_n dX5_append_18 rfl ?_
    refine sGetI (x := (nI (l.length))) dX5_append_19 fl_X5_18 hr.1 (by decide) rfl (by rw [h.1]) ?_
    refine rIload_n dX5_append_22 rfl ?_
    refine nIast dX5_append_23 hr.2.1 (by omega) (by omega) ?_
    refine rAload_n dX5_append_24 rfl ?_
    refine sGetR dX5_append_25 fl_X5_15 hr.1 (by decide) rfl ?_
    refine rAload_n dX5_append_28 rfl ?_
    refine sGetI (x := (nI (l.length))) dX5_append_29 fl_X5_18 hr.1 (by decide) rfl (by rw [sw_a (by omega), h.1]) ?_
    refine rIload_n dX5_append_32 rfl ?_
    refine nIast dX5_append_33 hr.2.2 (by omega) (by omega) ?_
    refine rAload_n dX5_append_34 rfl ?_
    refine rDup dX5_append_35 rfl ?_
    refine sGetI (x := (nI (l.length))) dX5_append_36 fl_X5_18 hr.1 (by decide) rfl (by rw [sw_a (by omega), sw_a (by omega), h.1]) ?_
    refine rIconst (v := (nI (1))) dX5_append_39 (by decide) ?_
    refine nIadd dX5_append_40 ?_
    refine sPutI dX5_append_41 fl_X5_18 ft_X5 rfl hr.1 (by decide) rfl rfl rfl ?_
    refine rIconst (v := (nI (1))) dX5_append_44 (by decide) ?_
    exact sIret dX5_append_45 rfl rfl (Nat.le_of_ble_eq_true rfl) (Nat.le_of_ble_eq_true rfl) ⟨_, rfl, ⟨⟨by rw [sw_s, List.length_append]; rfl, fun i hi => (by
            rw [List.length_append] at hi
            simp only [List.length_singleton] at hi
            rcases Nat.lt_or_ge i l.length with q | q
            · rw [app_get q]
              simp (disch := omega) only [sw_s, sw_a, sw_i]
              exact h.2 i q
            · have e : i = l.length := by omega
              subst e
              rw [app_last, hk, ht]
              simp (disch := omega) only [sw_s, sw_a, sw_i]
              exact ⟨trivial, trivial⟩)⟩, fun b h0 h1 h2 => (by rw [sw_a h0, sw_a h2, sw_a h1]), rfl⟩⟩
  · have c_9 : ¬ ((l.length) < n) := fun h => c_9 ((nI_ltI (by omega) (by omega)).mpr h)
    exact absurd c_9 (by omega)
set_option maxRecDepth 100000 in
set_option maxHeartbeats 4000000 in
theorem c_X5_append0 {G : gG} {V : wV} {lo : Nat → Int64} {r n : Nat} {l : List Nat} (hr : rowAt V r n) (hn : n ≤ 6) (hl : l.length ≤ n) {s : sgT} (h : rowIs s r l) (ho : okR l) (hlt : l.length = n) {x y : Int32} : CSp G V mX5_append cX5_append (rmD 1 0 0) [.ref (ad V r), .int x, .int y] s lo (fun v => v = nI 0) (fun _ => False) := by
  refine CSp.of (L := [some (.ref (ad V r)), some (.int x), some (.int y)]) rfl (by decide +kernel) rfl (Nat.le_of_ble_eq_true rfl) rfl ?_
  refine rAload_n dX5_append_0 rfl ?_
  refine sGetI (x := (nI (l.length))) dX5_append_1 fl_X5_18 hr.1 (by decide) rfl (by rw [h.1]) ?_
  refine rAload_n dX5_append_4 rfl ?_
  refine sGetR dX5_append_5 fl_X5_9 hr.1 (by decide) rfl ?_
  refine sAlenI (v := nI n) dX5_append_8 hr.2.1 rfl ?_
  refine r_icmp_lt (tgt := 14) dX5_append_9 (by decide) (fun c_9 => ?_) (fun c_9 => ?_)
  · have c_9 : (l.length) < n := (nI_ltI (by omega) (by omega)).mp c_9
    exact absurd c_9 (by omega)
  · have c_9 : ¬ ((l.length) < n) := fun h => c_9 ((nI_ltI (by omega) (by omega)).mpr h)
    refine rIconst (v := (nI (0))) dX5_append_12 (by decide) ?_
    exact sIret dX5_append_13 rfl rfl (Nat.le_of_ble_eq_true rfl) (Nat.le_of_ble_eq_true rfl) ⟨_, rfl, rfl, rfl⟩
set_option maxRecDepth 100000 in
set_option maxHeartbeats 4000000 in
theorem c_X5_removeAt {G : gG} {V : wV} {lo : Nat → Int64} {r n : Nat} {l : List Nat} (hr : rowAt V r n) (hn : n ≤ 6) (hl : l.length ≤ n) {s : sgT} (h : rowIs s r l) (ho : okR l) {p : Nat} (hp : p < l.length) : CSv G V mX5_removeAt cX5_removeAt (rmD 2 0 0) [.ref (ad V r), .int (nI p)] s lo (fun s' => rowIs s' r (l.eraseIdx p) ∧ (∀ b, b ≠ r → b ≠ r + 1 → b ≠ r + 2 → s' b = s b)) (fun _ => False) := by
  refine CSv.of (L := [some (.ref (ad V r)), some (.int (nI p)), none]) rfl (by decide +kernel) rfl (Nat.le_of_ble_eq_true rfl) rfl ?_
  refine rAload_n dX5_removeAt_0 rfl ?_
  refine rIload_n dX5_removeAt_1 rfl ?_
  refine sCallVp (M' := mX5_has) (rm' := rmD 1 0 0) (As := [.int (nI p)]) (rest := []) dX5_removeAt_2 rfl mk_X5_has mi_X5_has ll_X5_22 ⟨(Nat.le_of_ble_eq_true rfl), (Nat.le_of_ble_eq_true rfl)⟩ hr.1 (by decide) rfl rfl (Nat.le_of_ble_eq_true rfl) (Nat.le_of_ble_eq_true rfl) (c_X5_has hr hn hl h ho) rfl (Nat.le_of_ble_eq_true rfl) (fun v hb => ?_)
  rcases hb with ⟨-, rfl⟩ | ⟨hb, -⟩
  · refine r_if_ne (tgt := 9) dX5_removeAt_5 (by decide) (fun c_5 => ?_) (fun c_5 => ?_)
    · have c_5 : ¬ (1 = 0) := fun h => c_5 ((nz_eq (by omega)).mpr h)
      refine rAload_n dX5_removeAt_9 rfl ?_
      refine rDup dX5_removeAt_10 rfl ?_
      refine sGetI (x := (nI (l.length))) dX5_removeAt_11 fl_X5_18 hr.1 (by decide) rfl (by rw [h.1]) ?_
      refine rIconst (v := (nI (1))) dX5_removeAt_14 (by decide) ?_
      refine nIsub dX5_removeAt_15 (by omega) ?_
      refine sPutI dX5_removeAt_16 fl_X5_18 ft_X5 rfl hr.1 (by decide) rfl rfl rfl ?_
      refine rIload_n dX5_removeAt_19 rfl ?_
      refine rIstore_n dX5_removeAt_20 (by decide) ?_
      have hel : (l.eraseIdx p).length = l.length - 1 := List.length_eraseIdx_of_lt hp
      refine loopW (σ := sgT) (l.length - 1) (fun i x => [some (.ref (ad V r)), some (.int (nI p)), some (.int (nI i))]) (fun i x => x) (fun i x => x r 2 = nI (l.length - 1) ∧ (∀ b, b ≠ r → b ≠ r + 1 → b ≠ r + 2 → x b = s b) ∧ (∀ j, j < i → x (r + 1) j = nI ((l.eraseIdx p).getD j 0 / 10) ∧ x (r + 2) j = nI ((l.eraseIdx p).getD j 0 % 10)) ∧ (∀ j, i ≤ j → j < l.length → x (r + 1) j = nI (l.getD j 0 / 10) ∧ x (r + 2) j = nI (l.getD j 0 % 10)) ∧ p ≤ i) (p) (sw s r 2 (nI ((l.length) - 1))) (by omega) ⟨sw_s, fun b h0 h1 h2 => sw_a h0, fun j hj => (by
            rw [sw_a (by omega), sw_a (by omega), era_get (by omega), if_pos hj]
            exact h.2 j (by omega)), fun j _ hj => (by
            rw [sw_a (by omega), sw_a (by omega)]
            exact h.2 j hj), Nat.le_refl _⟩ (fun i x hi hinv ih => ?_)
      obtain ⟨v1, v2, v3, v4, v5⟩ := hinv
      refine rIload_n dX5_removeAt_21 rfl ?_
      refine rAload_n dX5_removeAt_22 rfl ?_
      refine sGetI (x := (nI (l.length - 1))) dX5_removeAt_23 fl_X5_18 hr.1 (by decide) rfl (by rw [v1]) ?_
      refine r_icmp_ge (tgt := 63) dX5_removeAt_26 (by decide) (fun c_26 => ?_) (fun c_26 => ?_)
      · have c_26 : (l.length - 1) ≤ i := (nI_leI (by omega) (by omega)).mp c_26
        exact sVret dX5_removeAt_63 rfl (Nat.le_of_ble_eq_true rfl) (Nat.le_of_ble_eq_true rfl) ⟨rfl, ⟨⟨(by rw [hel]; exact v1), fun j hj => v3 j (by omega)⟩, v2⟩⟩
      · have c_26 : ¬ ((l.length - 1) ≤ i) := fun h => c_26 ((nI_leI (by omega) (by omega)).mpr h)
        refine rAload_n dX5_removeAt_29 rfl ?_
        refine sGetR dX5_removeAt_30 fl_X5_9 hr.1 (by decide) rfl ?_
        refine rIload_n dX5_removeAt_33 rfl ?_
        refine rAload_n dX5_removeAt_34 rfl ?_
        refine sGetR dX5_removeAt_35 fl_X5_9 hr.1 (by decide) rfl ?_
        refine rIload_n dX5_removeAt_38 rfl ?_
        refine rIconst (v := (nI (1))) dX5_removeAt_39 (by decide) ?_
        refine nIadd dX5_removeAt_40 ?_
        refine nIald (v := (nI (l.getD (i + 1) 0 / 10))) dX5_removeAt_41 hr.2.1 (by omega) (by omega) (by rw [(v4 (i + 1) (by omega) (by omega)).1]) ?_
        refine nIast dX5_removeAt_42 hr.2.1 (by omega) (by omega) ?_
        refine rAload_n dX5_removeAt_43 rfl ?_
        refine sGetR dX5_removeAt_44 fl_X5_15 hr.1 (by decide) rfl ?_
        refine rIload_n dX5_removeAt_47 rfl ?_
        refine rAload_n dX5_removeAt_48 rfl ?_
        refine sGetR dX5_removeAt_49 fl_X5_15 hr.1 (by decide) rfl ?_
        refine rIload_n dX5_removeAt_52 rfl ?_
        refine rIconst (v := (nI (1))) dX5_removeAt_53 (by decide) ?_
        refine nIadd dX5_removeAt_54 ?_
        refine nIald (v := (nI (l.getD (i + 1) 0 % 10))) dX5_removeAt_55 hr.2.2 (by omega) (by omega) (by rw [sw_a (by omega), (v4 (i + 1) (by omega) (by omega)).2]) ?_
        refine nIast dX5_removeAt_56 hr.2.2 (by omega) (by omega) ?_
        refine rIinc (v := (nI (i + 1))) dX5_removeAt_57 rfl (by first | exact nI_add _ _ | rfl) (by decide) ?_
        refine rGoto (tgt := 21) dX5_removeAt_60 (by decide) ?_
        exact ih (by omega) _ ⟨(by rw [sw_a (by omega), sw_a (by omega)]; exact v1), fun b h0 h1 h2 => (by rw [sw_a h2, sw_a h1]; exact v2 b h0 h1 h2), fun j hj => (by
              rw [sw_a (by omega)]
              rcases Nat.lt_or_ge j i with q | q
              · rw [sw_i (by omega), sw_i (by omega), sw_a (by omega)]
                exact v3 j q
              · have e : j = i := by omega
                subst e
                rw [sw_s, sw_s, era_get (by omega), if_neg (by omega)]
                exact ⟨rfl, rfl⟩), fun j h1 h2 => (by
              rw [sw_a (by omega), sw_i (by omega), sw_i (by omega), sw_a (by omega)]
              exact v4 j (by omega) h2), by omega⟩
    · have c_5 : 1 = 0 := (nz_eq (by omega)).mp c_5
      exact absurd c_5 (by omega)
  · exact absurd ⟨p, hp, rfl⟩ hb
set_option maxRecDepth 100000 in
set_option maxHeartbeats 4000000 in
theorem c_X5_find {G : gG} {V : wV} {lo : Nat → Int64} {r n : Nat} {l : List Nat} (hr : rowAt V r n) (hn : n ≤ 6) (hl : l.length ≤ n) {s : sgT} (h : rowIs s r l) (ho : okR l) {u k t : Nat} (hu : okU u) (hk : u / 10 = k) (ht : u % 10 = t) : CSp G V mX5_find cX5_find (rmD 1 0 0) [.ref (ad V r), .int (nI k), .int (nI t)] s lo (fun v => (u ∈ l ∧ v = nI (l.idxOf u)) ∨ (u ∉ l ∧ v = -1)) (fun _ => False) := by
  refine CSp.of (L := [some (.ref (ad V r)), some (.int (nI k)), some (.int (nI t)), none]) rfl (by decide +kernel) rfl (Nat.le_of_ble_eq_true rfl) rfl ?_
  obtain ⟨hu1, hu2, hu3⟩ := hu
  refine rIconst (v := (nI (0))) dX5_find_0 (by decide) ?_
  refine rIstore_n dX5_find_1 (by decide) ?_
  refine loopW (σ := Unit) (l.length) (fun i _ => [some (.ref (ad V r)), some (.int (nI k)), some (.int (nI t)), some (.int (nI i))]) (fun i _ => s) (fun i _ => ∀ j, j < i → l.getD j 0 ≠ u) (0) () (by omega) (fun j hj => absurd hj (by omega)) (fun i _ hi hinv ih => ?_)
  refine rIload_n dX5_find_2 rfl ?_
  refine rAload_n dX5_find_3 rfl ?_
  refine sGetI (x := (nI (l.length))) dX5_find_4 fl_X5_18 hr.1 (by decide) rfl (by rw [h.1]) ?_
  refine r_icmp_ge (tgt := 38) dX5_find_7 (by decide) (fun c_7 => ?_) (fun c_7 => ?_)
  · have c_7 : (l.length) ≤ i := (nI_leI (by omega) (by omega)).mp c_7
    refine rIconst (v := (-1)) dX5_find_38 (by decide) ?_
    exact sIret dX5_find_39 rfl rfl (Nat.le_of_ble_eq_true rfl) (Nat.le_of_ble_eq_true rfl) ⟨_, rfl, rfl, (Or.inr ⟨mem_no (fun j hj => hinv j (by omega)), rfl⟩)⟩
  · have c_7 : ¬ ((l.length) ≤ i) := fun h => c_7 ((nI_leI (by omega) (by omega)).mpr h)
    obtain ⟨y1, y2, y3⟩ := ho i (by omega)
    refine rAload_n dX5_find_10 rfl ?_
    refine sGetR dX5_find_11 fl_X5_9 hr.1 (by decide) rfl ?_
    refine rIload_n dX5_find_14 rfl ?_
    refine nIald (v := (nI (l.getD i 0 / 10))) dX5_find_15 hr.2.1 (by omega) (by omega) (by rw [(h.2 i (by omega)).1]) ?_
    refine rIload_n dX5_find_16 rfl ?_
    refine r_icmp_ne (tgt := 32) dX5_find_17 (by decide) (fun c_17 => ?_) (fun c_17 => ?_)
    · have c_17 : ¬ ((l.getD i 0 / 10) = k) := fun h => c_17 ((nI_eq (by omega) (by omega)).mpr h)
      refine rIinc (v := (nI (i + 1))) dX5_find_32 rfl (by first | exact nI_add _ _ | rfl) (by decide) ?_
      refine rGoto (tgt := 2) dX5_find_35 (by decide) ?_
      exact ih (by omega) () (fun j hj => (by
              rcases Nat.lt_or_ge j i with q | q
              · exact hinv j q
              · have e : j = i := by omega
                subst e
                intro e
                rw [e] at c_17
                omega))
    · have c_17 : (l.getD i 0 / 10) = k := (nI_eq (by omega) (by omega)).mp c_17
      refine rAload_n dX5_find_20 rfl ?_
      refine sGetR dX5_find_21 fl_X5_15 hr.1 (by decide) rfl ?_
      refine rIload_n dX5_find_24 rfl ?_
      refine nIald (v := (nI (l.getD i 0 % 10))) dX5_find_25 hr.2.2 (by omega) (by omega) (by rw [(h.2 i (by omega)).2]) ?_
      refine rIload_n dX5_find_26 rfl ?_
      refine r_icmp_ne (tgt := 32) dX5_find_27 (by decide) (fun c_27 => ?_) (fun c_27 => ?_)
      · have c_27 : ¬ ((l.getD i 0 % 10) = t) := fun h => c_27 ((nI_eq (by omega) (by omega)).mpr h)
        refine rIinc (v := (nI (i + 1))) dX5_find_32 rfl (by first | exact nI_add _ _ | rfl) (by decide) ?_
        refine rGoto (tgt := 2) dX5_find_35 (by decide) ?_
        exact ih (by omega) () (fun j hj => (by
                rcases Nat.lt_or_ge j i with q | q
                · exact hinv j q
                · have e : j = i := by omega
                  subst e
                  intro e
                  rw [e] at c_27
                  omega))
      · have c_27 : (l.getD i 0 % 10) = t := (nI_eq (by omega) (by omega)).mp c_27
        refine rIload_n dX5_find_30 rfl ?_
        obtain ⟨z1, z2⟩ := idx_find (u := u) (by omega) (by rw [u_of c_17 c_27]; omega) hinv
        exact sIret dX5_find_31 rfl rfl (Nat.le_of_ble_eq_true rfl) (Nat.le_of_ble_eq_true rfl) ⟨_, rfl, rfl, (Or.inl ⟨z1, by rw [z2]⟩)⟩
set_option maxRecDepth 100000 in
set_option maxHeartbeats 4000000 in
theorem c_X5_countOf {G : gG} {V : wV} {lo : Nat → Int64} {r n : Nat} {l : List Nat} (hr : rowAt V r n) (hn : n ≤ 6) (hl : l.length ≤ n) {s : sgT} (h : rowIs s r l) (ho : okR l) {u k t : Nat} (hu : okU u) (hk : u / 10 = k) (ht : u % 10 = t) : CSp G V mX5_countOf cX5_countOf (rmD 1 0 0) [.ref (ad V r), .int (nI k), .int (nI t)] s lo (fun v => v = nI (l.count u)) (fun _ => False) := by
  refine CSp.of (L := [some (.ref (ad V r)), some (.int (nI k)), some (.int (nI t)), none, none]) rfl (by decide +kernel) rfl (Nat.le_of_ble_eq_true rfl) rfl ?_
  obtain ⟨hu1, hu2, hu3⟩ := hu
  refine rIconst (v := (nI (0))) dX5_countOf_0 (by decide) ?_
  refine rIstore_n dX5_countOf_1 (by decide) ?_
  refine rIconst (v := (nI (0))) dX5_countOf_2 (by decide) ?_
  refine rIstore dX5_countOf_3 (by decide) ?_
  refine loopW (σ := Unit) (l.length) (fun i _ => [some (.ref (ad V r)), some (.int (nI k)), some (.int (nI t)), some (.int (nI ((l.take i).count u))), some (.int (nI i))]) (fun i _ => s) (fun i _ => True) (0) () (by omega) trivial (fun i _ hi hinv ih => ?_)
  refine rIload dX5_countOf_5 rfl ?_
  refine rAload_n dX5_countOf_7 rfl ?_
  refine sGetI (x := (nI (l.length))) dX5_countOf_8 fl_X5_18 hr.1 (by decide) rfl (by rw [h.1]) ?_
  refine r_icmp_ge (tgt := 45) dX5_countOf_11 (by decide) (fun c_11 => ?_) (fun c_11 => ?_)
  · have c_11 : (l.length) ≤ i := (nI_leI (by omega) (by omega)).mp c_11
    refine rIload_n dX5_countOf_45 rfl ?_
    exact sIret dX5_countOf_46 rfl rfl (Nat.le_of_ble_eq_true rfl) (Nat.le_of_ble_eq_true rfl) ⟨_, rfl, rfl, (by rw [List.take_of_length_le (by omega)])⟩
  · have c_11 : ¬ ((l.length) ≤ i) := fun h => c_11 ((nI_leI (by omega) (by omega)).mpr h)
    obtain ⟨y1, y2, y3⟩ := ho i (by omega)
    have hct := count_take (u := u) (show i < l.length by omega)
    refine rAload_n dX5_countOf_14 rfl ?_
    refine sGetR dX5_countOf_15 fl_X5_9 hr.1 (by decide) rfl ?_
    refine rIload dX5_countOf_18 rfl ?_
    refine nIald (v := (nI (l.getD i 0 / 10))) dX5_countOf_20 hr.2.1 (by omega) (by omega) (by rw [(h.2 i (by omega)).1]) ?_
    refine rIload_n dX5_countOf_21 rfl ?_
    refine r_icmp_ne (tgt := 39) dX5_countOf_22 (by decide) (fun c_22 => ?_) (fun c_22 => ?_)
    · have c_22 : ¬ ((l.getD i 0 / 10) = k) := fun h => c_22 ((nI_eq (by omega) (by omega)).mpr h)
      refine rIinc (v := (nI (i + 1))) dX5_countOf_39 rfl (by first | exact nI_add _ _ | rfl) (by decide) ?_
      refine rGoto (tgt := 5) dX5_countOf_42 (by decide) ?_
      rw [if_neg (fun e => c_22 (by rw [e]; exact hk)), Nat.add_zero] at hct
      have hz := ih (by omega) () trivial
      rw [hct] at hz
      exact hz
    · have c_22 : (l.getD i 0 / 10) = k := (nI_eq (by omega) (by omega)).mp c_22
      refine rAload_n dX5_countOf_25 rfl ?_
      refine sGetR dX5_countOf_26 fl_X5_15 hr.1 (by decide) rfl ?_
      refine rIload dX5_countOf_29 rfl ?_
      refine nIald (v := (nI (l.getD i 0 % 10))) dX5_countOf_31 hr.2.2 (by omega) (by omega) (by rw [(h.2 i (by omega)).2]) ?_
      refine rIload_n dX5_countOf_32 rfl ?_
      refine r_icmp_ne (tgt := 39) dX5_countOf_33 (by decide) (fun c_33 => ?_) (fun c_33 => ?_)
      · have c_33 : ¬ ((l.getD i 0 % 10) = t) := fun h => c_33 ((nI_eq (by omega) (by omega)).mpr h)
        refine rIinc (v := (nI (i + 1))) dX5_countOf_39 rfl (by first | exact nI_add _ _ | rfl) (by decide) ?_
        refine rGoto (tgt := 5) dX5_countOf_42 (by decide) ?_
        rw [if_neg (fun e => c_33 (by rw [e]; exact ht)), Nat.add_zero] at hct
        have hz := ih (by omega) () trivial
        rw [hct] at hz
        exact hz
      · have c_33 : (l.getD i 0 % 10) = t := (nI_eq (by omega) (by omega)).mp c_33
        refine rIinc (v := (nI ((l.take i).count u + 1))) dX5_countOf_36 rfl (by first | exact nI_add _ _ | rfl) (by decide) ?_
        refine rIinc (v := (nI (i + 1))) dX5_countOf_39 rfl (by first | exact nI_add _ _ | rfl) (by decide) ?_
        refine rGoto (tgt := 5) dX5_countOf_42 (by decide) ?_
        rw [if_pos (by rw [u_of c_22 c_33]; omega)] at hct
        have hz := ih (by omega) () trivial
        rw [hct] at hz
        exact hz
set_option maxRecDepth 100000 in
set_option maxHeartbeats 4000000 in
theorem c_X5_hasKind {G : gG} {V : wV} {lo : Nat → Int64} {r n : Nat} {l : List Nat} (hr : rowAt V r n) (hn : n ≤ 6) (hl : l.length ≤ n) {s : sgT} (h : rowIs s r l) (ho : okR l) {k : Nat} (hk : k < 2 ^ 31) : CSp G V mX5_hasKind cX5_hasKind (rmD 1 0 0) [.ref (ad V r), .int (nI k)] s lo (fun v => isB v (hKb l k = true)) (fun _ => False) := by
  refine CSp.of (L := [some (.ref (ad V r)), some (.int (nI k)), none]) rfl (by decide +kernel) rfl (Nat.le_of_ble_eq_true rfl) rfl ?_
  refine rIconst (v := (nI (0))) dX5_hasKind_0 (by decide) ?_
  refine rIstore_n dX5_hasKind_1 (by decide) ?_
  refine loopW (σ := Unit) (l.length) (fun i _ => [some (.ref (ad V r)), some (.int (nI k)), some (.int (nI i))]) (fun i _ => s) (fun i _ => ∀ j, j < i → l.getD j 0 / 10 ≠ k) (0) () (by omega) (fun j hj => absurd hj (by omega)) (fun i _ hi hinv ih => ?_)
  refine rIload_n dX5_hasKind_2 rfl ?_
  refine rAload_n dX5_hasKind_3 rfl ?_
  refine sGetI (x := (nI (l.length))) dX5_hasKind_4 fl_X5_18 hr.1 (by decide) rfl (by rw [h.1]) ?_
  refine r_icmp_ge (tgt := 28) dX5_hasKind_7 (by decide) (fun c_7 => ?_) (fun c_7 => ?_)
  · have c_7 : (l.length) ≤ i := (nI_leI (by omega) (by omega)).mp c_7
    refine rIconst (v := (nI (0))) dX5_hasKind_28 (by decide) ?_
    exact sIret dX5_hasKind_29 rfl rfl (Nat.le_of_ble_eq_true rfl) (Nat.le_of_ble_eq_true rfl) ⟨_, rfl, rfl, (Or.inr ⟨fun q => (by obtain ⟨u, hu, e⟩ := hKb_iff.mp q; obtain ⟨j, hj, rfl⟩ := mem_getD hu; exact hinv j (by omega) e), rfl⟩)⟩
  · have c_7 : ¬ ((l.length) ≤ i) := fun h => c_7 ((nI_leI (by omega) (by omega)).mpr h)
    obtain ⟨y1, y2, y3⟩ := ho i (by omega)
    refine rAload_n dX5_hasKind_10 rfl ?_
    refine sGetR dX5_hasKind_11 fl_X5_9 hr.1 (by decide) rfl ?_
    refine rIload_n dX5_hasKind_14 rfl ?_
    refine nIald (v := (nI (l.getD i 0 / 10))) dX5_hasKind_15 hr.2.1 (by omega) (by omega) (by rw [(h.2 i (by omega)).1]) ?_
    refine rIload_n dX5_hasKind_16 rfl ?_
    refine r_icmp_ne (tgt := 22) dX5_hasKind_17 (by decide) (fun c_17 => ?_) (fun c_17 => ?_)
    · have c_17 : ¬ ((l.getD i 0 / 10) = k) := fun h => c_17 ((nI_eq (by omega) (by omega)).mpr h)
      refine rIinc (v := (nI (i + 1))) dX5_hasKind_22 rfl (by first | exact nI_add _ _ | rfl) (by decide) ?_
      refine rGoto (tgt := 2) dX5_hasKind_25 (by decide) ?_
      exact ih (by omega) () (fun j hj => (by
            rcases Nat.lt_or_ge j i with q | q
            · exact hinv j q
            · have e : j = i := by omega
              subst e
              exact c_17))
    · have c_17 : (l.getD i 0 / 10) = k := (nI_eq (by omega) (by omega)).mp c_17
      refine rIconst (v := (nI (1))) dX5_hasKind_20 (by decide) ?_
      exact sIret dX5_hasKind_21 rfl rfl (Nat.le_of_ble_eq_true rfl) (Nat.le_of_ble_eq_true rfl) ⟨_, rfl, rfl, (Or.inl ⟨hKb_iff.mpr ⟨_, getD_mem (by omega), c_17⟩, rfl⟩)⟩
set_option maxRecDepth 100000 in
set_option maxHeartbeats 4000000 in
theorem c_X5_unitsHeld {G : gG} {V : wV} {lo : Nat → Int64} {r n : Nat} {l : List Nat} (hr : rowAt V r n) (hn : n ≤ 6) (hl : l.length ≤ n) {s : sgT} (h : rowIs s r l) (ho : okR l) {k : Nat} (hk : k < 2 ^ 31) : CSp G V mX5_unitsHeld cX5_unitsHeld (rmD 2 0 0) [.ref (ad V r), .int (nI k)] s lo (fun v => v = nI (heldN l k)) (fun _ => False) := by
  refine CSp.of (L := [some (.ref (ad V r)), some (.int (nI k)), none, none]) rfl (by decide +kernel) rfl (Nat.le_of_ble_eq_true rfl) rfl ?_
  refine rIconst (v := (nI (0))) dX5_unitsHeld_0 (by decide) ?_
  refine rIstore_n dX5_unitsHeld_1 (by decide) ?_
  refine rIconst (v := (nI (0))) dX5_unitsHeld_2 (by decide) ?_
  refine rIstore_n dX5_unitsHeld_3 (by decide) ?_
  refine loopW (σ := Unit) (l.length) (fun i _ => [some (.ref (ad V r)), some (.int (nI k)), some (.int (nI (heldN (l.take i) k))), some (.int (nI i))]) (fun i _ => s) (fun i _ => True) (0) () (by omega) trivial (fun i _ hi hinv ih => ?_)
  refine rIload_n dX5_unitsHeld_4 rfl ?_
  refine rAload_n dX5_unitsHeld_5 rfl ?_
  refine sGetI (x := (nI (l.length))) dX5_unitsHeld_6 fl_X5_18 hr.1 (by decide) rfl (by rw [h.1]) ?_
  refine r_icmp_ge (tgt := 40) dX5_unitsHeld_9 (by decide) (fun c_9 => ?_) (fun c_9 => ?_)
  · have c_9 : (l.length) ≤ i := (nI_leI (by omega) (by omega)).mp c_9
    refine rIload_n dX5_unitsHeld_40 rfl ?_
    exact sIret dX5_unitsHeld_41 rfl rfl (Nat.le_of_ble_eq_true rfl) (Nat.le_of_ble_eq_true rfl) ⟨_, rfl, rfl, (by rw [List.take_of_length_le (by omega)])⟩
  · have c_9 : ¬ ((l.length) ≤ i) := fun h => c_9 ((nI_leI (by omega) (by omega)).mpr h)
    obtain ⟨y1, y2, y3⟩ := ho i (by omega)
    have hct := held_take (k := k) (show i < l.length by omega)
    refine rAload_n dX5_unitsHeld_12 rfl ?_
    refine sGetR dX5_unitsHeld_13 fl_X5_9 hr.1 (by decide) rfl ?_
    refine rIload_n dX5_unitsHeld_16 rfl ?_
    refine nIald (v := (nI (l.getD i 0 / 10))) dX5_unitsHeld_17 hr.2.1 (by omega) (by omega) (by rw [(h.2 i (by omega)).1]) ?_
    refine rIload_n dX5_unitsHeld_18 rfl ?_
    refine r_icmp_ne (tgt := 34) dX5_unitsHeld_19 (by decide) (fun c_19 => ?_) (fun c_19 => ?_)
    · have c_19 : ¬ ((l.getD i 0 / 10) = k) := fun h => c_19 ((nI_eq (by omega) (by omega)).mpr h)
      refine rIinc (v := (nI (i + 1))) dX5_unitsHeld_34 rfl (by first | exact nI_add _ _ | rfl) (by decide) ?_
      refine rGoto (tgt := 4) dX5_unitsHeld_37 (by decide) ?_
      rw [if_neg c_19, Nat.add_zero] at hct
      have hz := ih (by omega) () trivial
      rw [hct] at hz
      exact hz
    · have c_19 : (l.getD i 0 / 10) = k := (nI_eq (by omega) (by omega)).mp c_19
      refine rIload_n dX5_unitsHeld_22 rfl ?_
      refine rAload_n dX5_unitsHeld_23 rfl ?_
      refine sGetR dX5_unitsHeld_24 fl_X5_15 hr.1 (by decide) rfl ?_
      refine rIload_n dX5_unitsHeld_27 rfl ?_
      refine nIald (v := (nI (l.getD i 0 % 10))) dX5_unitsHeld_28 hr.2.2 (by omega) (by omega) (by rw [(h.2 i (by omega)).2]) ?_
      refine sCallSp (M' := mX6_unitsFor) (rm' := rmD 1 0 0) (As := [.int (nI (l.getD i 0 % 10))]) (rest := [.int (nI (heldN (l.take i) k))]) dX5_unitsHeld_29 rfl mk_X6_unitsFor ms_X6_unitsFor ll_X5_26 ⟨(Nat.le_of_ble_eq_true rfl), (Nat.le_of_ble_eq_true rfl)⟩ rfl (Nat.le_of_ble_eq_true rfl) (Nat.le_of_ble_eq_true rfl) (c_X6_unitsFor (by omega)) rfl (Nat.le_of_ble_eq_true rfl) (fun v e => ?_)
      refine tTop (w := (nI (wor (l.getD i 0 % 10)))) e ?_
      refine nIadd dX5_unitsHeld_32 ?_
      refine rIstore_n dX5_unitsHeld_33 (by decide) ?_
      refine rIinc (v := (nI (i + 1))) dX5_unitsHeld_34 rfl (by first | exact nI_add _ _ | rfl) (by decide) ?_
      refine rGoto (tgt := 4) dX5_unitsHeld_37 (by decide) ?_
      rw [if_pos c_19] at hct
      have hz := ih (by omega) () trivial
      rw [hct] at hz
      exact hz
set_option maxRecDepth 100000 in
set_option maxHeartbeats 4000000 in
theorem c_X5_unitAt {G : gG} {V : wV} {lo : Nat → Int64} {r n : Nat} {l : List Nat} (hr : rowAt V r n) (hn : n ≤ 6) (hl : l.length ≤ n) {s : sgT} (h : rowIs s r l) (ho : okR l) {p : Nat} (hp : p < 2 ^ 31) : CSp G V mX5_unitAt cX5_unitAt (rmD 2 0 0) [.ref (ad V r), .int (nI p)] s lo (fun v => (p < l.length ∧ v = nI (l.getD p 0)) ∨ (¬ p < l.length ∧ v = -1)) (fun _ => False) := by
  refine CSp.of (L := [some (.ref (ad V r)), some (.int (nI p))]) rfl (by decide +kernel) rfl (Nat.le_of_ble_eq_true rfl) rfl ?_
  refine rAload_n dX5_unitAt_0 rfl ?_
  refine rIload_n dX5_unitAt_1 rfl ?_
  refine sCallVp (M' := mX5_has) (rm' := rmD 1 0 0) (As := [.int (nI p)]) (rest := []) dX5_unitAt_2 rfl mk_X5_has mi_X5_has ll_X5_22 ⟨(Nat.le_of_ble_eq_true rfl), (Nat.le_of_ble_eq_true rfl)⟩ hr.1 (by decide) rfl rfl (Nat.le_of_ble_eq_true rfl) (Nat.le_of_ble_eq_true rfl) (c_X5_has hr hn hl h ho) rfl (Nat.le_of_ble_eq_true rfl) (fun v hb => ?_)
  rcases hb with ⟨hb, rfl⟩ | ⟨hb, rfl⟩
  · have hpl : p < l.length := (by obtain ⟨i, hi, e⟩ := hb; have e := (nI_eq (by omega) (by omega)).mp e; omega)
    refine r_if_eq (tgt := 27) dX5_unitAt_5 (by decide) (fun c_5 => ?_) (fun c_5 => ?_)
    · have c_5 : 1 = 0 := (nz_eq (by omega)).mp c_5
      exact absurd c_5 (by omega)
    · have c_5 : ¬ (1 = 0) := fun h => c_5 ((nz_eq (by omega)).mpr h)
      refine rBipush (v := (nI (10))) dX5_unitAt_8 (by decide) ?_
      refine rAload_n dX5_unitAt_10 rfl ?_
      refine sGetR dX5_unitAt_11 fl_X5_9 hr.1 (by decide) rfl ?_
      refine rIload_n dX5_unitAt_14 rfl ?_
      refine nIald (v := (nI (l.getD p 0 / 10))) dX5_unitAt_15 hr.2.1 (by omega) (by omega) (by rw [(h.2 p (by omega)).1]) ?_
      refine nImul dX5_unitAt_16 ?_
      refine rAload_n dX5_unitAt_17 rfl ?_
      refine sGetR dX5_unitAt_18 fl_X5_15 hr.1 (by decide) rfl ?_
      refine rIload_n dX5_unitAt_21 rfl ?_
      refine nIald (v := (nI (l.getD p 0 % 10))) dX5_unitAt_22 hr.2.2 (by omega) (by omega) (by rw [(h.2 p (by omega)).2]) ?_
      refine nIadd dX5_unitAt_23 ?_
      refine rGoto (tgt := 28) dX5_unitAt_24 (by decide) ?_
      exact sIret dX5_unitAt_28 rfl rfl (Nat.le_of_ble_eq_true rfl) (Nat.le_of_ble_eq_true rfl) ⟨_, rfl, rfl, (Or.inl ⟨hpl, congrArg nI (by omega)⟩)⟩
  · refine r_if_eq (tgt := 27) dX5_unitAt_5 (by decide) (fun c_5 => ?_) (fun c_5 => ?_)
    · have c_5 : 0 = 0 := (nz_eq (by omega)).mp c_5
      refine rIconst (v := (-1)) dX5_unitAt_27 (by decide) ?_
      exact sIret dX5_unitAt_28 rfl rfl (Nat.le_of_ble_eq_true rfl) (Nat.le_of_ble_eq_true rfl) ⟨_, rfl, rfl, (Or.inr ⟨fun q => hb ⟨p, q, rfl⟩, rfl⟩)⟩
    · have c_5 : ¬ (0 = 0) := fun h => c_5 ((nz_eq (by omega)).mpr h)
      exact absurd c_5 (by omega)
set_option maxRecDepth 100000 in
set_option maxHeartbeats 4000000 in
theorem c_X5_healthAt {G : gG} {V : wV} {lo : Nat → Int64} {r n : Nat} {l : List Nat} (hr : rowAt V r n) (hn : n ≤ 6) (hl : l.length ≤ n) {s : sgT} (h : rowIs s r l) (ho : okR l) {p : Nat} (hp : p < l.length) : CSp G V mX5_healthAt cX5_healthAt (rmD 2 0 0) [.ref (ad V r), .int (nI p)] s lo (fun v => v = nI (hthN (l.getD p 0))) (fun _ => False) := by
  refine CSp.of (L := [some (.ref (ad V r)), some (.int (nI p))]) rfl (by decide +kernel) rfl (Nat.le_of_ble_eq_true rfl) rfl ?_
  refine rAload_n dX5_healthAt_0 rfl ?_
  refine rIload_n dX5_healthAt_1 rfl ?_
  refine sCallVp (M' := mX5_has) (rm' := rmD 1 0 0) (As := [.int (nI p)]) (rest := []) dX5_healthAt_2 rfl mk_X5_has mi_X5_has ll_X5_22 ⟨(Nat.le_of_ble_eq_true rfl), (Nat.le_of_ble_eq_true rfl)⟩ hr.1 (by decide) rfl rfl (Nat.le_of_ble_eq_true rfl) (Nat.le_of_ble_eq_true rfl) (c_X5_has hr hn hl h ho) rfl (Nat.le_of_ble_eq_true rfl) (fun v hb => ?_)
  rcases hb with ⟨-, rfl⟩ | ⟨hb, -⟩
  · obtain ⟨y1, y2, y3⟩ := ho p hp
    refine r_if_eq (tgt := 30) dX5_healthAt_5 (by decide) (fun c_5 => ?_) (fun c_5 => ?_)
    · have c_5 : 1 = 0 := (nz_eq (by omega)).mp c_5
      exact absurd c_5 (by omega)
    · have c_5 : ¬ (1 = 0) := fun h => c_5 ((nz_eq (by omega)).mpr h)
      refine rBipush (v := (nI (6))) dX5_healthAt_8 (by decide) ?_
      refine rAload_n dX5_healthAt_10 rfl ?_
      refine sGetR dX5_healthAt_11 fl_X5_9 hr.1 (by decide) rfl ?_
      refine rIload_n dX5_healthAt_14 rfl ?_
      refine nIald (v := (nI (l.getD p 0 / 10))) dX5_healthAt_15 hr.2.1 (by omega) (by omega) (by rw [(h.2 p (by omega)).1]) ?_
      refine sCallSp (M' := mX6_costOf) (rm' := rmD 1 0 0) (As := [.int (nI (l.getD p 0 / 10))]) (rest := [.int (nI 6)]) dX5_healthAt_16 rfl mk_X6_costOf ms_X6_costOf ll_X5_30 ⟨(Nat.le_of_ble_eq_true rfl), (Nat.le_of_ble_eq_true rfl)⟩ rfl (Nat.le_of_ble_eq_true rfl) (Nat.le_of_ble_eq_true rfl) (c_X6_costOf (by omega)) rfl (Nat.le_of_ble_eq_true rfl) (fun v e => ?_)
      refine tTop (w := (nI (cst (l.getD p 0 / 10)))) e ?_
      refine nImul dX5_healthAt_19 ?_
      refine rAload_n dX5_healthAt_20 rfl ?_
      refine sGetR dX5_healthAt_21 fl_X5_15 hr.1 (by decide) rfl ?_
      refine rIload_n dX5_healthAt_24 rfl ?_
      refine nIald (v := (nI (l.getD p 0 % 10))) dX5_healthAt_25 hr.2.2 (by omega) (by omega) (by rw [(h.2 p (by omega)).2]) ?_
      refine nImul dX5_healthAt_26 ?_
      refine rGoto (tgt := 31) dX5_healthAt_27 (by decide) ?_
      exact sIret dX5_healthAt_31 rfl rfl (Nat.le_of_ble_eq_true rfl) (Nat.le_of_ble_eq_true rfl) ⟨_, rfl, rfl, rfl⟩
  · exact absurd ⟨p, hp, rfl⟩ hb
set_option maxRecDepth 100000 in
set_option maxHeartbeats 4000000 in
theorem c_X5_strengthAt {G : gG} {V : wV} {lo : Nat → Int64} {r n : Nat} {l : List Nat} (hr : rowAt V r n) (hn : n ≤ 6) (hl : l.length ≤ n) {s : sgT} (h : rowIs s r l) (ho : okR l) {p : Nat} (hp : p < l.length) : CSp G V mX5_strengthAt cX5_strengthAt (rmD 2 0 0) [.ref (ad V r), .int (nI p)] s lo (fun v => v = nI (strN l (l.getD p 0))) (fun _ => False) := by
  refine CSp.of (L := [some (.ref (ad V r)), some (.int (nI p)), none, none, none]) rfl (by decide +kernel) rfl (Nat.le_of_ble_eq_true rfl) rfl ?_
  refine rAload_n dX5_strengthAt_0 rfl ?_
  refine rIload_n dX5_strengthAt_1 rfl ?_
  refine sCallVp (M' := mX5_has) (rm' := rmD 1 0 0) (As := [.int (nI p)]) (rest := []) dX5_strengthAt_2 rfl mk_X5_has mi_X5_has ll_X5_22 ⟨(Nat.le_of_ble_eq_true rfl), (Nat.le_of_ble_eq_true rfl)⟩ hr.1 (by decide) rfl rfl (Nat.le_of_ble_eq_true rfl) (Nat.le_of_ble_eq_true rfl) (c_X5_has hr hn hl h ho) rfl (Nat.le_of_ble_eq_true rfl) (fun v hb => ?_)
  rcases hb with ⟨-, rfl⟩ | ⟨hb, -⟩
  · obtain ⟨y1, y2, y3⟩ := ho p hp
    obtain ⟨q, hq⟩ : ∃ q, q = l.getD p 0 := ⟨_, rfl⟩
    rw [← hq] at y1 y2 y3
    refine r_if_ne (tgt := 10) dX5_strengthAt_5 (by decide) (fun c_5 => ?_) (fun c_5 => ?_)
    · have c_5 : ¬ (1 = 0) := fun h => c_5 ((nz_eq (by omega)).mpr h)
      refine rAload_n dX5_strengthAt_10 rfl ?_
      refine sGetR dX5_strengthAt_11 fl_X5_9 hr.1 (by decide) rfl ?_
      refine rIload_n dX5_strengthAt_14 rfl ?_
      refine nIald (v := (nI (q / 10))) dX5_strengthAt_15 hr.2.1 (by omega) (by omega) (by rw [(h.2 p (by omega)).1, ← hq]) ?_
      refine rIstore_n dX5_strengthAt_16 (by decide) ?_
      refine rIconst (v := (nI (2))) dX5_strengthAt_17 (by decide) ?_
      refine rIload_n dX5_strengthAt_18 rfl ?_
      refine sCallSp (M' := mX6_costOf) (rm' := rmD 1 0 0) (As := [.int (nI (q / 10))]) (rest := [.int (nI 2)]) dX5_strengthAt_19 rfl mk_X6_costOf ms_X6_costOf ll_X5_30 ⟨(Nat.le_of_ble_eq_true rfl), (Nat.le_of_ble_eq_true rfl)⟩ rfl (Nat.le_of_ble_eq_true rfl) (Nat.le_of_ble_eq_true rfl) (c_X6_costOf (by omega)) rfl (Nat.le_of_ble_eq_true rfl) (fun v e => ?_)
      refine tTop (w := (nI (cst (q / 10)))) e ?_
      refine nImul dX5_strengthAt_22 ?_
      refine rAload_n dX5_strengthAt_23 rfl ?_
      refine sGetR dX5_strengthAt_24 fl_X5_15 hr.1 (by decide) rfl ?_
      refine rIload_n dX5_strengthAt_27 rfl ?_
      refine nIald (v := (nI (q % 10))) dX5_strengthAt_28 hr.2.2 (by omega) (by omega) (by rw [(h.2 p (by omega)).2, ← hq]) ?_
      refine nImul dX5_strengthAt_29 ?_
      refine rIstore_n dX5_strengthAt_30 (by decide) ?_
      refine rIload_n dX5_strengthAt_31 rfl ?_
      refine rIconst (v := (nI (3))) dX5_strengthAt_32 (by decide) ?_
      refine nIrem dX5_strengthAt_33 (by omega) (by decide) (by decide) ?_
      refine rIstore dX5_strengthAt_34 (by decide) ?_
      refine loopW (σ := Unit) (3) (fun i _ => [some (.ref (ad V r)), some (.int (nI p)), some (.int (nI (q / 10))), some (.int (nI (2 * cst (q / 10) * (q % 10) + kinI l (q / 10) i))), some (.int (nI (q / 10 % 3 + 3 * i)))]) (fun i _ => s) (fun i _ => True) (0) () (by omega) trivial (fun i _ hi hinv ih => ?_)
      refine rIload dX5_strengthAt_36 rfl ?_
      refine rBipush (v := (nI (9))) dX5_strengthAt_38 (by decide) ?_
      refine r_icmp_ge (tgt := 67) dX5_strengthAt_40 (by decide) (fun c_40 => ?_) (fun c_40 => ?_)
      · have c_40 : 9 ≤ (q / 10 % 3 + 3 * i) := (nI_leI (by omega) (by omega)).mp c_40
        refine rIload_n dX5_strengthAt_67 rfl ?_
        exact sIret dX5_strengthAt_68 rfl rfl (Nat.le_of_ble_eq_true rfl) (Nat.le_of_ble_eq_true rfl) ⟨_, rfl, rfl, (by rw [← hq]; exact congrArg (fun z => nI (2 * cst (q / 10) * (q % 10) + z)) (kinI_3 (show i = 3 by omega)))⟩
      · have c_40 : ¬ (9 ≤ (q / 10 % 3 + 3 * i)) := fun h => c_40 ((nI_leI (by omega) (by omega)).mpr h)
        have hki := kinI_s (l := l) (k := q / 10) (i := i) (by omega)
        refine rIload dX5_strengthAt_43 rfl ?_
        refine rIload_n dX5_strengthAt_45 rfl ?_
        refine r_icmp_eq (tgt := 61) dX5_strengthAt_46 (by decide) (fun c_46 => ?_) (fun c_46 => ?_)
        · have c_46 : (q / 10 % 3 + 3 * i) = (q / 10) := (nI_eq (by omega) (by omega)).mp c_46
          refine rIinc (v := (nI (q / 10 % 3 + 3 * i + 3))) dX5_strengthAt_61 rfl (by first | exact nI_add _ _ | rfl) (by decide) ?_
          refine rGoto (tgt := 36) dX5_strengthAt_64 (by decide) ?_
          rw [if_neg (fun z => z.1 (by omega)), Nat.add_zero] at hki
          have hz := ih (by omega) () trivial
          rw [hki] at hz
          rw [show q / 10 % 3 + 3 * (i + 1) = q / 10 % 3 + 3 * i + 3 by omega] at hz
          exact hz
        · have c_46 : ¬ ((q / 10 % 3 + 3 * i) = (q / 10)) := fun h => c_46 ((nI_eq (by omega) (by omega)).mpr h)
          refine rAload_n dX5_strengthAt_49 rfl ?_
          refine rIload dX5_strengthAt_50 rfl ?_
          refine sCallVp (M' := mX5_hasKind) (rm' := rmD 1 0 0) (As := [.int (nI (q / 10 % 3 + 3 * i))]) (rest := []) dX5_strengthAt_52 rfl mk_X5_hasKind mi_X5_hasKind ll_X5_33 ⟨(Nat.le_of_ble_eq_true rfl), (Nat.le_of_ble_eq_true rfl)⟩ hr.1 (by decide) rfl rfl (Nat.le_of_ble_eq_true rfl) (Nat.le_of_ble_eq_true rfl) (c_X5_hasKind hr hn hl h ho (by omega)) rfl (Nat.le_of_ble_eq_true rfl) (fun v hb => ?_)
          rcases hb with ⟨hb, rfl⟩ | ⟨hb, rfl⟩
          · refine r_if_eq (tgt := 61) dX5_strengthAt_55 (by decide) (fun c_55 => ?_) (fun c_55 => ?_)
            · have c_55 : 1 = 0 := (nz_eq (by omega)).mp c_55
              exact absurd c_55 (by omega)
            · have c_55 : ¬ (1 = 0) := fun h => c_55 ((nz_eq (by omega)).mpr h)
              refine rIinc (v := (nI (2 * cst (q / 10) * (q % 10) + kinI l (q / 10) i + 1))) dX5_strengthAt_58 rfl (by first | exact nI_add _ _ | rfl) (by decide) ?_
              refine rIinc (v := (nI (q / 10 % 3 + 3 * i + 3))) dX5_strengthAt_61 rfl (by first | exact nI_add _ _ | rfl) (by decide) ?_
              refine rGoto (tgt := 36) dX5_strengthAt_64 (by decide) ?_
              rw [if_pos ⟨(by omega), hb⟩] at hki
              have hz := ih (by omega) () trivial
              rw [hki] at hz
              rw [show q / 10 % 3 + 3 * (i + 1) = q / 10 % 3 + 3 * i + 3 by omega] at hz
              exact hz
          · refine r_if_eq (tgt := 61) dX5_strengthAt_55 (by decide) (fun c_55 => ?_) (fun c_55 => ?_)
            · have c_55 : 0 = 0 := (nz_eq (by omega)).mp c_55
              refine rIinc (v := (nI (q / 10 % 3 + 3 * i + 3))) dX5_strengthAt_61 rfl (by first | exact nI_add _ _ | rfl) (by decide) ?_
              refine rGoto (tgt := 36) dX5_strengthAt_64 (by decide) ?_
              rw [if_neg (fun z => hb z.2), Nat.add_zero] at hki
              have hz := ih (by omega) () trivial
              rw [hki] at hz
              rw [show q / 10 % 3 + 3 * (i + 1) = q / 10 % 3 + 3 * i + 3 by omega] at hz
              exact hz
            · have c_55 : ¬ (0 = 0) := fun h => c_55 ((nz_eq (by omega)).mpr h)
              exact absurd c_55 (by omega)
    · have c_5 : 1 = 0 := (nz_eq (by omega)).mp c_5
      exact absurd c_5 (by omega)
  · exact absurd ⟨p, hp, rfl⟩ hb
