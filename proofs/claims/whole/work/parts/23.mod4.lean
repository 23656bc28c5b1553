/-! the reference: rows of units (by program) -/
theorem okU_lt {u : Nat} (h : okU u) : u < 90 := by
  unfold okU at h
  omega
theorem mrow_app {s : sgT} {a b p n u : Nat} {l : List Nat} (h : mrow s a b p n l) (hab : a ≠ b) : mrow (sw (sw s b (n * p + l.length) (nI u)) a p (nI (l.length + 1))) a b p n (l ++ [u]) := by
  refine ⟨by rw [sw_s, List.length_append]; rfl, fun i hi => ?_⟩
  rw [List.length_append] at hi
  simp only [List.length_singleton] at hi
  rw [sw_a (Ne.symm hab)]
  rcases Nat.lt_or_ge i l.length with z | z
  · rw [app_get z, sw_i (by omega)]
    exact h.2 i z
  · have e : i = l.length := by omega
    subst e
    rw [app_last, sw_s]
theorem modIs_pool {s : sgT} {m k n : Nat} {h : hT} (hh : modIs s m h) : modIs (sw s (m + 2) k (nI (hP h k + n))) m (hQ h, incP (hP h) k n, h.2.2) :=
  ⟨by rw [sw_a (by omega)]; exact hh.1, mque_keep hh.2.1 (fun j _ => by rw [sw_a (by omega)]) (sw_a (by omega)), fun i hi => by
    show _ = nI (if i = k then hP h i + n else hP h i)
    by_cases e : i = k
    · subst e
      rw [sw_s, if_pos rfl]
    · rw [sw_i e, if_neg e]
      exact hh.2.2.1 i hi, fun p hp => by
    obtain ⟨e1, e2, e3, e4, e5, e6, e7, e8⟩ := hh.2.2.2 p hp
    exact ⟨by rw [sw_a (by omega)]; exact e1, by rw [sw_a (by omega)]; exact e2, by rw [sw_a (by omega)]; exact e3, by rw [sw_a (by omega)]; exact e4, by rw [sw_a (by omega)]; exact e5, fun j hj => by rw [sw_a (by omega)]; exact e6 j hj, mrow_keep e7 (by rw [sw_a (by omega)]) (fun i hi => by rw [sw_a (by omega)]), mrow_keep e8 (by rw [sw_a (by omega)]) (fun i hi => by rw [sw_a (by omega)])⟩⟩
/-- how a sum over the kin comes about -/
def kinT (l : List Nat) (k : Nat) : Nat → Nat
  | 0 => 0
  | t + 1 => kinT l k t + if k % 3 + 3 * t ≠ k ∧ hKb l (k % 3 + 3 * t) = true then 1 else 0
theorem kinT_3 {l : List Nat} {k : Nat} : kinT l k 3 = kinN l k := by
  simp [kinT, kinN]
theorem hKb_take {l : List Nat} {i k : Nat} (h : i < l.length) : hKb (l.take (i + 1)) k = true ↔ (hKb (l.take i) k = true ∨ l.getD i 0 / 10 = k) := by
  rw [tk h]
  simp [hKb]
/-- shops, slot by slot -/
def shA (h : hT) (k : Nat) : Nat → Nat
  | 0 => 0
  | i + 1 => shA h k i + if pShp (hY h (i / 3)) (i % 3) = some k then 1 else 0
def alA (h : hT) (k : Nat) : Nat → Nat
  | 0 => shA h k 12
  | i + 1 => alA h k i + 1 * cntU (pBrd (hY h i), pBen (hY h i)) (10 * k + 1) + 3 * cntU (pBrd (hY h i), pBen (hY h i)) (10 * k + 2) + 9 * cntU (pBrd (hY h i), pBen (hY h i)) (10 * k + 3)
theorem held_cnt {k : Nat} : ∀ {l : List Nat}, (∀ u ∈ l, okU u) → heldN l k = 1 * l.count (10 * k + 1) + 3 * l.count (10 * k + 2) + 9 * l.count (10 * k + 3)
  | [], _ => rfl
  | u :: l, h => by
    have ih := held_cnt (k := k) (l := l) (fun w hw => h w (List.mem_cons_of_mem _ hw))
    obtain ⟨h1, h2, h3⟩ := h u List.mem_cons_self
    have e : heldN (u :: l) k = (if u / 10 = k then wor (u % 10) else 0) + heldN l k := by simp [heldN]
    rw [e, ih, List.count_cons, List.count_cons, List.count_cons]
    by_cases c : u / 10 = k
    · rw [if_pos c]
      rcases (by omega : u % 10 = 1 ∨ u % 10 = 2 ∨ u % 10 = 3) with d | d | d
      · have z : u = 10 * k + 1 := by omega
        rw [d, z]
        simp [wor]
        omega
      · have z : u = 10 * k + 2 := by omega
        rw [d, z]
        simp [wor]
        omega
      · have z : u = 10 * k + 3 := by omega
        rw [d, z]
        simp [wor]
        omega
    · rw [if_neg c]
      have a1 : (u == 10 * k + 1) = false := by simp; omega
      have a2 : (u == 10 * k + 2) = false := by simp; omega
      have a3 : (u == 10 * k + 3) = false := by simp; omega
      rw [a1, a2, a3]
      simp
theorem alA_out {B : Nat} {h : hT} {k : Nat} (hok : hallOk B h) : alA h k 4 = outN h k 4 := by
  have z : ∀ p, p < 4 → heldN (pBen (hY h p)) k + heldN (pBrd (hY h p)) k = 1 * cntU (pBrd (hY h p), pBen (hY h p)) (10 * k + 1) + 3 * cntU (pBrd (hY h p), pBen (hY h p)) (10 * k + 2) + 9 * cntU (pBrd (hY h p), pBen (hY h p)) (10 * k + 3) := by
    intro p hp
    obtain ⟨o1, o2, o3, o4, o5, o6, o7, o8, o9⟩ := hok.2.2.1 p hp
    rw [held_cnt (okR_mem.mp o6), held_cnt (okR_mem.mp o7)]
    simp only [cntU]
    omega
  have z0 := z 0 (by decide)
  have z1 := z 1 (by decide)
  have z2 := z 2 (by decide)
  have z3 := z 3 (by decide)
  have s12 : shA h k 12 = shpN (pShp (hY h 0)) k 3 + shpN (pShp (hY h 1)) k 3 + shpN (pShp (hY h 2)) k 3 + shpN (pShp (hY h 3)) k 3 := by
    simp only [shA, shpN]
    simp only [show 0 / 3 = 0 from rfl, show 1 / 3 = 0 from rfl, show 2 / 3 = 0 from rfl, show 3 / 3 = 1 from rfl, show 4 / 3 = 1 from rfl, show 5 / 3 = 1 from rfl, show 6 / 3 = 2 from rfl, show 7 / 3 = 2 from rfl, show 8 / 3 = 2 from rfl, show 9 / 3 = 3 from rfl, show 10 / 3 = 3 from rfl, show 11 / 3 = 3 from rfl, show 0 % 3 = 0 from rfl, show 1 % 3 = 1 from rfl, show 2 % 3 = 2 from rfl, show 3 % 3 = 0 from rfl, show 4 % 3 = 1 from rfl, show 5 % 3 = 2 from rfl, show 6 % 3 = 0 from rfl, show 7 % 3 = 1 from rfl, show 8 % 3 = 2 from rfl, show 9 % 3 = 0 from rfl, show 10 % 3 = 1 from rfl, show 11 % 3 = 2 from rfl]
    omega
  simp only [alA, outN]
  omega
set_option maxRecDepth 100000 in
set_option maxHeartbeats 4000000 in
theorem c_X7_takesOffBench {G : gG} {V : wV} {lo : Nat → Int64} {m : Nat} (hm : modAt V m) {s : sgT} {p q : Nat} {l : List Nat} (hr : mrow s (m + 9) (m + 10) p 6 l) (hl : l.length ≤ 6) (hp : p < 4) (hq : q < l.length) : CSv G V mX7_takesOffBench cX7_takesOffBench (rmD 1 0 0) [.ref (ad V m), .int (nI p), .int (nI q)] s lo (fun s' => mrow s' (m + 9) (m + 10) p 6 (l.eraseIdx q) ∧ rFr s s' (m + 9) (m + 10) p 6) (fun _ => False) := by
  refine CSv.of (L := [some (.ref (ad V m)), some (.int (nI p)), some (.int (nI q)), none]) rfl (by decide +kernel) rfl (Nat.le_of_ble_eq_true rfl) rfl ?_
  refine rIload_n dX7_takesOffBench_0 rfl ?_
  refine rIconst (v := (nI (1))) dX7_takesOffBench_1 (by decide) ?_
  refine nIadd dX7_takesOffBench_2 ?_
  refine rIstore_n dX7_takesOffBench_3 (by decide) ?_
  refine loopW (σ := sgT) (l.length) (fun i y => [some (.ref (ad V m)), some (.int (nI p)), some (.int (nI q)), some (.int (nI i))]) (fun i y => y) (fun i y => q + 1 ≤ i ∧ (∀ j, j < l.length → y (m + 10) (6 * p + j) = nI (if q ≤ j ∧ j + 1 < i then l.getD (j + 1) 0 else l.getD j 0)) ∧ (∀ j, j < 6 * p ∨ 6 * p + 6 ≤ j → y (m + 10) j = s (m + 10) j) ∧ (∀ b, b ≠ m + 10 → y b = s b)) ((q + 1)) s (by omega) ⟨Nat.le_refl _, fun j hj => by rw [if_neg (by omega)]; exact hr.2 j hj, fun _ _ => rfl, fun _ _ => rfl⟩ (fun i y hi hinv ih => ?_)
  obtain ⟨v0, v1, v2, v3⟩ := hinv
  refine rIload_n dX7_takesOffBench_4 rfl ?_
  refine rAload_n dX7_takesOffBench_5 rfl ?_
  refine sGetR dX7_takesOffBench_6 fl_X7_35 hm.1 (by decide) rfl ?_
  refine rIload_n dX7_takesOffBench_9 rfl ?_
  refine nIald (v := (nI (l.length))) dX7_takesOffBench_10 hm.2.2.2.2.2.2.2.2.2.1 (by omega) (by omega) (by rw [v3 _ (by omega), hr.1]) ?_
  refine r_icmp_ge (tgt := 44) dX7_takesOffBench_11 (by decide) (fun c_11 => ?_) (fun c_11 => ?_)
  · have c_11 : (l.length) ≤ i := (nI_leI (by omega) (by omega)).mp c_11
    have e : i = l.length := by omega
    subst e
    refine rAload_n dX7_takesOffBench_44 rfl ?_
    refine sGetR dX7_takesOffBench_45 fl_X7_35 hm.1 (by decide) rfl ?_
    refine rIload_n dX7_takesOffBench_48 rfl ?_
    refine rDup2 dX7_takesOffBench_49 rfl rfl ?_
    refine nIald (v := (nI (l.length))) dX7_takesOffBench_50 hm.2.2.2.2.2.2.2.2.2.1 (by omega) (by omega) (by rw [v3 _ (by omega), hr.1]) ?_
    refine rIconst (v := (nI (1))) dX7_takesOffBench_51 (by decide) ?_
    refine nIsub dX7_takesOffBench_52 (by omega) ?_
    refine nIast dX7_takesOffBench_53 hm.2.2.2.2.2.2.2.2.2.1 (by omega) (by omega) ?_
    exact sVret dX7_takesOffBench_54 rfl (Nat.le_of_ble_eq_true rfl) (Nat.le_of_ble_eq_true rfl) ⟨rfl, ⟨⟨by rw [sw_s]; exact congrArg nI (by have := era_len hq; omega), fun j hj => (by
            have h9 := era_len hq
            rw [sw_a (by omega), v1 j (by omega), era_get hj]
            by_cases c : j < q
            · rw [if_neg (by omega), if_pos c]
            · rw [if_pos (by omega), if_neg c])⟩, fun c h1 h2 => by rw [sw_a h1, v3 c h2], fun j hj => by rw [sw_i hj, v3 _ (by omega)], fun j hj => by rw [sw_a (by omega)]; exact v2 j hj⟩⟩
  · have c_11 : ¬ ((l.length) ≤ i) := fun h => c_11 ((nI_leI (by omega) (by omega)).mpr h)
    have hz := v1 i (by omega)
    rw [if_neg (by omega)] at hz
    refine rAload_n dX7_takesOffBench_14 rfl ?_
    refine sGetR dX7_takesOffBench_15 fl_X7_38 hm.1 (by decide) rfl ?_
    refine rBipush (v := (nI (6))) dX7_takesOffBench_18 (by decide) ?_
    refine rIload_n dX7_takesOffBench_20 rfl ?_
    refine nImul dX7_takesOffBench_21 ?_
    refine rIload_n dX7_takesOffBench_22 rfl ?_
    refine nIadd dX7_takesOffBench_23 ?_
    refine rIconst (v := (nI (1))) dX7_takesOffBench_24 (by decide) ?_
    refine nIsub dX7_takesOffBench_25 (by omega) ?_
    refine rAload_n dX7_takesOffBench_26 rfl ?_
    refine sGetR dX7_takesOffBench_27 fl_X7_38 hm.1 (by decide) rfl ?_
    refine rBipush (v := (nI (6))) dX7_takesOffBench_30 (by decide) ?_
    refine rIload_n dX7_takesOffBench_32 rfl ?_
    refine nImul dX7_takesOffBench_33 ?_
    refine rIload_n dX7_takesOffBench_34 rfl ?_
    refine nIadd dX7_takesOffBench_35 ?_
    refine nIald (v := (nI (l.getD i 0))) dX7_takesOffBench_36 hm.2.2.2.2.2.2.2.2.2.2.1 (by omega) (by omega) (by rw [hz]) ?_
    refine nIast dX7_takesOffBench_37 hm.2.2.2.2.2.2.2.2.2.2.1 (by omega) (by omega) ?_
    refine rIinc (v := (nI (i + 1))) dX7_takesOffBench_38 rfl (by first | exact nI_add _ _ | rfl) (by decide) ?_
    refine rGoto (tgt := 4) dX7_takesOffBench_41 (by decide) ?_
    exact ih (by omega) (sw y (m + 10) (((6 * p) + i) - 1) (nI (l.getD i 0))) ⟨by omega, fun j hj => (by
            by_cases e : j + 1 = i
            · subst e
              rw [show 6 * p + (j + 1) - 1 = 6 * p + j by omega, sw_s, if_pos (by omega)]
            · rw [sw_i (by omega), v1 j hj]
              by_cases c : q ≤ j ∧ j + 1 < i
              · rw [if_pos c, if_pos (by omega)]
              · rw [if_neg c, if_neg (by omega)]), fun j hj => by rw [sw_i (by omega)]; exact v2 j hj, fun c hc => by rw [sw_a hc]; exact v3 c hc⟩
set_option maxRecDepth 100000 in
set_option maxHeartbeats 4000000 in
theorem c_X7_takesOffBoard {G : gG} {V : wV} {lo : Nat → Int64} {m : Nat} (hm : modAt V m) {s : sgT} {p q : Nat} {l : List Nat} (hr : mrow s (m + 11) (m + 12) p 5 l) (hl : l.length ≤ 5) (hp : p < 4) (hq : q < l.length) : CSv G V mX7_takesOffBoard cX7_takesOffBoard (rmD 1 0 0) [.ref (ad V m), .int (nI p), .int (nI q)] s lo (fun s' => mrow s' (m + 11) (m + 12) p 5 (l.eraseIdx q) ∧ rFr s s' (m + 11) (m + 12) p 5) (fun _ => False) := by
  refine CSv.of (L := [some (.ref (ad V m)), some (.int (nI p)), some (.int (nI q)), none]) rfl (by decide +kernel) rfl (Nat.le_of_ble_eq_true rfl) rfl ?_
  refine rIload_n dX7_takesOffBoard_0 rfl ?_
  refine rIconst (v := (nI (1))) dX7_takesOffBoard_1 (by decide) ?_
  refine nIadd dX7_takesOffBoard_2 ?_
  refine rIstore_n dX7_takesOffBoard_3 (by decide) ?_
  refine loopW (σ := sgT) (l.length) (fun i y => [some (.ref (ad V m)), some (.int (nI p)), some (.int (nI q)), some (.int (nI i))]) (fun i y => y) (fun i y => q + 1 ≤ i ∧ (∀ j, j < l.length → y (m + 12) (5 * p + j) = nI (if q ≤ j ∧ j + 1 < i then l.getD (j + 1) 0 else l.getD j 0)) ∧ (∀ j, j < 5 * p ∨ 5 * p + 5 ≤ j → y (m + 12) j = s (m + 12) j) ∧ (∀ b, b ≠ m + 12 → y b = s b)) ((q + 1)) s (by omega) ⟨Nat.le_refl _, fun j hj => by rw [if_neg (by omega)]; exact hr.2 j hj, fun _ _ => rfl, fun _ _ => rfl⟩ (fun i y hi hinv ih => ?_)
  obtain ⟨v0, v1, v2, v3⟩ := hinv
  refine rIload_n dX7_takesOffBoard_4 rfl ?_
  refine rAload_n dX7_takesOffBoard_5 rfl ?_
  refine sGetR dX7_takesOffBoard_6 fl_X7_41 hm.1 (by decide) rfl ?_
  refine rIload_n dX7_takesOffBoard_9 rfl ?_
  refine nIald (v := (nI (l.length))) dX7_takesOffBoard_10 hm.2.2.2.2.2.2.2.2.2.2.2.1 (by omega) (by omega) (by rw [v3 _ (by omega), hr.1]) ?_
  refine r_icmp_ge (tgt := 42) dX7_takesOffBoard_11 (by decide) (fun c_11 => ?_) (fun c_11 => ?_)
  · have c_11 : (l.length) ≤ i := (nI_leI (by omega) (by omega)).mp c_11
    have e : i = l.length := by omega
    subst e
    refine rAload_n dX7_takesOffBoard_42 rfl ?_
    refine sGetR dX7_takesOffBoard_43 fl_X7_41 hm.1 (by decide) rfl ?_
    refine rIload_n dX7_takesOffBoard_46 rfl ?_
    refine rDup2 dX7_takesOffBoard_47 rfl rfl ?_
    refine nIald (v := (nI (l.length))) dX7_takesOffBoard_48 hm.2.2.2.2.2.2.2.2.2.2.2.1 (by omega) (by omega) (by rw [v3 _ (by omega), hr.1]) ?_
    refine rIconst (v := (nI (1))) dX7_takesOffBoard_49 (by decide) ?_
    refine nIsub dX7_takesOffBoard_50 (by omega) ?_
    refine nIast dX7_takesOffBoard_51 hm.2.2.2.2.2.2.2.2.2.2.2.1 (by omega) (by omega) ?_
    exact sVret dX7_takesOffBoard_52 rfl (Nat.le_of_ble_eq_true rfl) (Nat.le_of_ble_eq_true rfl) ⟨rfl, ⟨⟨by rw [sw_s]; exact congrArg nI (by have := era_len hq; omega), fun j hj => (by
            have h9 := era_len hq
            rw [sw_a (by omega), v1 j (by omega), era_get hj]
            by_cases c : j < q
            · rw [if_neg (by omega), if_pos c]
            · rw [if_pos (by omega), if_neg c])⟩, fun c h1 h2 => by rw [sw_a h1, v3 c h2], fun j hj => by rw [sw_i hj, v3 _ (by omega)], fun j hj => by rw [sw_a (by omega)]; exact v2 j hj⟩⟩
  · have c_11 : ¬ ((l.length) ≤ i) := fun h => c_11 ((nI_leI (by omega) (by omega)).mpr h)
    have hz := v1 i (by omega)
    rw [if_neg (by omega)] at hz
    refine rAload_n dX7_takesOffBoard_14 rfl ?_
    refine sGetR dX7_takesOffBoard_15 fl_X7_44 hm.1 (by decide) rfl ?_
    refine rIconst (v := (nI (5))) dX7_takesOffBoard_18 (by decide) ?_
    refine rIload_n dX7_takesOffBoard_19 rfl ?_
    refine nImul dX7_takesOffBoard_20 ?_
    refine rIload_n dX7_takesOffBoard_21 rfl ?_
    refine nIadd dX7_takesOffBoard_22 ?_
    refine rIconst (v := (nI (1))) dX7_takesOffBoard_23 (by decide) ?_
    refine nIsub dX7_takesOffBoard_24 (by omega) ?_
    refine rAload_n dX7_takesOffBoard_25 rfl ?_
    refine sGetR dX7_takesOffBoard_26 fl_X7_44 hm.1 (by decide) rfl ?_
    refine rIconst (v := (nI (5))) dX7_takesOffBoard_29 (by decide) ?_
    refine rIload_n dX7_takesOffBoard_30 rfl ?_
    refine nImul dX7_takesOffBoard_31 ?_
    refine rIload_n dX7_takesOffBoard_32 rfl ?_
    refine nIadd dX7_takesOffBoard_33 ?_
    refine nIald (v := (nI (l.getD i 0))) dX7_takesOffBoard_34 hm.2.2.2.2.2.2.2.2.2.2.2.2.1 (by omega) (by omega) (by rw [hz]) ?_
    refine nIast dX7_takesOffBoard_35 hm.2.2.2.2.2.2.2.2.2.2.2.2.1 (by omega) (by omega) ?_
    refine rIinc (v := (nI (i + 1))) dX7_takesOffBoard_36 rfl (by first | exact nI_add _ _ | rfl) (by decide) ?_
    refine rGoto (tgt := 4) dX7_takesOffBoard_39 (by decide) ?_
    exact ih (by omega) (sw y (m + 12) (((5 * p) + i) - 1) (nI (l.getD i 0))) ⟨by omega, fun j hj => (by
            by_cases e : j + 1 = i
            · subst e
              rw [show 5 * p + (j + 1) - 1 = 5 * p + j by omega, sw_s, if_pos (by omega)]
            · rw [sw_i (by omega), v1 j hj]
              by_cases c : q ≤ j ∧ j + 1 < i
              · rw [if_pos c, if_pos (by omega)]
              · rw [if_neg c, if_neg (by omega)]), fun j hj => by rw [sw_i (by omega)]; exact v2 j hj, fun c hc => by rw [sw_a hc]; exact v3 c hc⟩
set_option maxRecDepth 100000 in
set_option maxHeartbeats 4000000 in
theorem c_X7_sell {G : gG} {V : wV} {lo : Nat → Int64} {m : Nat} (hm : modAt V m) {s : sgT} {h : hT} (hh : modIs s m h) {B : Nat} (hok : hallOk B h) (hB : B ≤ 19000) {x y : Int32} : CSi G V mX7_sell cX7_sell (rmD 9 0 0) [.ref (ad V m), .int x, .int y] s lo (fun v s' => mPost m s (fSell h x y) v s') (fun _ => False) := by
  refine CSi.of (L := [some (.ref (ad V m)), some (.int x), some (.int y), none, none]) rfl (by decide +kernel) rfl (Nat.le_of_ble_eq_true rfl) rfl ?_
  refine rAload_n dX7_sell_0 rfl ?_
  refine rAload_n dX7_sell_1 rfl ?_
  refine rIload_n dX7_sell_2 rfl ?_
  refine rIload_n dX7_sell_3 rfl ?_
  refine sCallVp (M' := mX7_isOnBench) (rm' := rmD 3 0 0) (As := [.int x, .int y]) (rest := [.ref (ad V m)]) dX7_sell_4 rfl mk_X7_isOnBench mi_X7_isOnBench ll_X7_123 ⟨(Nat.le_of_ble_eq_true rfl), (Nat.le_of_ble_eq_true rfl)⟩ hm.1 (by decide) rfl rfl (Nat.le_of_ble_eq_true rfl) (Nat.le_of_ble_eq_true rfl) (c_X7_isOnBench hm hh hok hB) rfl (Nat.le_of_ble_eq_true rfl) (fun v e => ?_)
  rcases e with ⟨⟨p, hp, rfl, j, hj, rfl⟩, rfl⟩ | ⟨no, rfl⟩
  · have yp : mpl s m p (hY h p) := hh.2.2.2 p hp
    have bdp : mrow s (m + 11) (m + 12) p 5 (pBrd (hY h p)) := yp.2.2.2.2.2.2.1
    have bnp : mrow s (m + 9) (m + 10) p 6 (pBen (hY h p)) := yp.2.2.2.2.2.2.2
    obtain ⟨o1p, o2p, o3p, o4p, o5p, o6p, o7p, o8p, o9p⟩ := hok.2.2.1 p hp
    have ip : idx 4 (nI p) = some p := idx_nI hp (by decide)
    have ij : idx (pBen (hY h p)).length (nI j) = some j := idx_nI hj (by omega)
    refine r_if_eq (tgt := 14) dX7_sell_7 (by decide) (fun c_7 => ?_) (fun c_7 => ?_)
    · have c_7 : 1 = 0 := (nz_eq (by omega)).mp c_7
      exact absurd c_7 (by omega)
    · have c_7 : ¬ (1 = 0) := fun h => c_7 ((nz_eq (by omega)).mpr h)
      obtain ⟨u, hu⟩ : ∃ u, u = (pBen (hY h p)).getD j 0 := ⟨_, rfl⟩
      have hu9 : okU u := hu ▸ o6p j hj
      have hu90 := okU_lt hu9
      have hu0 := hu9.1
      have q1 := bnp.2 j hj
      rw [← hu] at q1
      have hF : fSell h (nI p) (nI j) = (0, nI (min 100 (pGold (hY h p) + cst (u / 10) * wor (u % 10))), hQ h, incP (hP h) (u / 10) (wor (u % 10)), (setY h p (wG (wB (hY h p) (pBrd (hY h p), (pBen (hY h p)).eraseIdx j)) (min 100 (pGold (hY h p) + cst (u / 10) * wor (u % 10))))).2.2) := by simp only [fSell, ip, ij, ← hu]
      rw [hF]
      refine rIconst (v := (nI (0))) dX7_sell_10 (by decide) ?_
      refine rGoto (tgt := 15) dX7_sell_11 (by decide) ?_
      refine sCallVi (M' := mX7_holds) (rm' := rmD 1 0 0) (As := [.int (nI 0)]) (rest := []) dX7_sell_15 rfl mk_X7_holds mi_X7_holds ll_X7_71 ⟨(Nat.le_of_ble_eq_true rfl), (Nat.le_of_ble_eq_true rfl)⟩ hm.1 (by decide) rfl rfl (Nat.le_of_ble_eq_true rfl) (Nat.le_of_ble_eq_true rfl) (c_X7_holds hm (by omega)) rfl (Nat.le_of_ble_eq_true rfl) (fun v15 t15 e15 => ?_)
      obtain ⟨rfl, rfl⟩ := e15
      refine tTop (w := (nI (1))) (if_pos rfl) ?_
      refine r_if_ne (tgt := 23) dX7_sell_18 (by decide) (fun c_18 => ?_) (fun c_18 => ?_)
      · have c_18 : ¬ (1 = 0) := fun h => c_18 ((nz_eq (by omega)).mpr h)
        have hcw := cw_le hu9
        have hpo := hok.2.1 (u / 10) hu0
        refine rAload_n dX7_sell_23 rfl ?_
        refine sGetR dX7_sell_24 fl_X7_38 hm.1 (by decide) rfl ?_
        refine rBipush (v := (nI (6))) dX7_sell_27 (by decide) ?_
        refine rIload_n dX7_sell_29 rfl ?_
        refine nImul dX7_sell_30 ?_
        refine rIload_n dX7_sell_31 rfl ?_
        refine nIadd dX7_sell_32 ?_
        refine nIald (v := (nI (u))) dX7_sell_33 hm.2.2.2.2.2.2.2.2.2.2.1 (by omega) (by omega) (by rw [sw_a (by omega), q1]) ?_
        refine rIstore_n dX7_sell_34 (by decide) ?_
        refine rIload_n dX7_sell_35 rfl ?_
        refine rBipush (v := (nI (10))) dX7_sell_36 (by decide) ?_
        refine nIrem dX7_sell_38 (by omega) (by decide) (by decide) ?_
        refine sCallSp (M' := mX7_worth) (rm' := rmD 1 0 0) (As := [.int (nI (u % 10))]) (rest := []) dX7_sell_39 rfl mk_X7_worth ms_X7_worth ll_X7_126 ⟨(Nat.le_of_ble_eq_true rfl), (Nat.le_of_ble_eq_true rfl)⟩ rfl (Nat.le_of_ble_eq_true rfl) (Nat.le_of_ble_eq_true rfl) (c_X7_worth (by omega)) rfl (Nat.le_of_ble_eq_true rfl) (fun vw ew => ?_)
        refine tTop (w := (nI (wor (u % 10)))) ew ?_
        refine rIstore dX7_sell_42 (by decide) ?_
        refine rAload_n dX7_sell_44 rfl ?_
        refine rIload_n dX7_sell_45 rfl ?_
        refine rIload_n dX7_sell_46 rfl ?_
        refine sCallVv (M' := mX7_takesOffBench) (rm' := rmD 1 0 0) (As := [.int (nI p), .int (nI j)]) (rest := []) dX7_sell_47 rfl mk_X7_takesOffBench mi_X7_takesOffBench ll_X7_96 ⟨(Nat.le_of_ble_eq_true rfl), (Nat.le_of_ble_eq_true rfl)⟩ hm.1 (by decide) rfl rfl (Nat.le_of_ble_eq_true rfl) (Nat.le_of_ble_eq_true rfl) (c_X7_takesOffBench hm (mrow_keep bnp (by rw [sw_a (by omega)]) (fun i _ => by rw [sw_a (by omega)])) o8p hp hj) rfl (Nat.le_of_ble_eq_true rfl) (fun s1 e => ?_)
        obtain ⟨e1, e2⟩ := e
        have hh1 := modIs_P (x := wB (hY h p) (pBrd (hY h p), (pBen (hY h p)).eraseIdx j)) (modIs_thr (v := nI 0) hh) hok e2.m6 (mPF.bb (mpl_thr yp) (fun a h1 h2 => e2.1 _ (by omega) (by omega)) ⟨mrow_keep bdp (by rw [e2.1 _ (by omega) (by omega), sw_a (by omega)]) (fun i _ => by rw [e2.1 _ (by omega) (by omega), sw_a (by omega)]), e1⟩)
        refine rAload_n dX7_sell_50 rfl ?_
        refine sGetR dX7_sell_51 fl_X7_13 hm.1 (by decide) rfl ?_
        refine rIload_n dX7_sell_54 rfl ?_
        refine rBipush (v := (nI (10))) dX7_sell_55 (by decide) ?_
        refine nIdiv dX7_sell_57 (by omega) (by decide) (by decide) ?_
        refine rDup2 dX7_sell_58 rfl rfl ?_
        refine nIald (v := (nI (hP h (u / 10)))) dX7_sell_59 hm.2.2.1 (by omega) (by omega) (by rw [e2.1 _ (by omega) (by omega), sw_a (by omega), hh.2.2.1 _ hu0]) ?_
        refine rIload dX7_sell_60 rfl ?_
        refine nIadd dX7_sell_62 ?_
        refine nIast dX7_sell_63 hm.2.2.1 (by omega) (by omega) ?_
        refine rAload_n dX7_sell_64 rfl ?_
        refine sGetR dX7_sell_65 fl_X7_16 hm.1 (by decide) rfl ?_
        refine rIload_n dX7_sell_68 rfl ?_
        refine rAload_n dX7_sell_69 rfl ?_
        refine sGetR dX7_sell_70 fl_X7_16 hm.1 (by decide) rfl ?_
        refine rIload_n dX7_sell_73 rfl ?_
        refine nIald (v := (nI (pGold (hY h p)))) dX7_sell_74 hm.2.2.2.1 (by omega) (by omega) (by rw [sw_a (by omega), e2.1 _ (by omega) (by omega), sw_a (by omega), yp.1]) ?_
        refine rIload_n dX7_sell_75 rfl ?_
        refine rBipush (v := (nI (10))) dX7_sell_76 (by decide) ?_
        refine nIdiv dX7_sell_78 (by omega) (by decide) (by decide) ?_
        refine sCallSp (M' := mX7_cost) (rm' := rmD 1 0 0) (As := [.int (nI (u / 10))]) (rest := [.int (nI (pGold (hY h p))), .int (nI p), .ref (ad V (m + 3))]) dX7_sell_79 rfl mk_X7_cost ms_X7_cost ll_X7_81 ⟨(Nat.le_of_ble_eq_true rfl), (Nat.le_of_ble_eq_true rfl)⟩ rfl (Nat.le_of_ble_eq_true rfl) (Nat.le_of_ble_eq_true rfl) (c_X7_cost (by omega)) rfl (Nat.le_of_ble_eq_true rfl) (fun vc ec => ?_)
        refine tTop (w := (nI (cst (u / 10)))) ec ?_
        refine rIload dX7_sell_82 rfl ?_
        refine nImul dX7_sell_84 ?_
        refine nIadd dX7_sell_85 ?_
        refine rBipush (v := (nI (100))) dX7_sell_86 (by decide) ?_
        refine sCallSp (M' := mX7_least) (rm' := rmD 1 0 0) (As := [.int (nI ((pGold (hY h p)) + ((cst (u / 10)) * (wor (u % 10))))), .int (nI 100)]) (rest := [.int (nI p), .ref (ad V (m + 3))]) dX7_sell_88 rfl mk_X7_least ms_X7_least ll_X7_129 ⟨(Nat.le_of_ble_eq_true rfl), (Nat.le_of_ble_eq_true rfl)⟩ rfl (Nat.le_of_ble_eq_true rfl) (Nat.le_of_ble_eq_true rfl) (c_X7_least (by omega) (by omega)) rfl (Nat.le_of_ble_eq_true rfl) (fun vl el => ?_)
        refine tTop (w := (nI (min 100 (pGold (hY h p) + cst (u / 10) * wor (u % 10))))) (el.trans (congrArg nI (Nat.min_comm _ _))) ?_
        refine nIast dX7_sell_91 hm.2.2.2.1 (by omega) (by omega) ?_
        refine rAload_n dX7_sell_92 rfl ?_
        refine sGetR dX7_sell_93 fl_X7_16 hm.1 (by decide) rfl ?_
        refine rIload_n dX7_sell_96 rfl ?_
        refine nIald (v := (nI (min 100 (pGold (hY h p) + cst (u / 10) * wor (u % 10))))) dX7_sell_97 hm.2.2.2.1 (by omega) (by omega) (by rw [sw_s]) ?_
        have hh2 := modIs_P (x := wG (wB (hY h p) (pBrd (hY h p), (pBen (hY h p)).eraseIdx j)) (min 100 (pGold (hY h p) + cst (u / 10) * wor (u % 10)))) (modIs_pool (k := u / 10) (n := wor (u % 10)) hh1) (B := B + wor (u % 10)) ⟨hok.1, poolOk_inc hok.2.1, (hallOk_P hok (plOk_wB (x := hY h p) (b := (pBrd (hY h p), (pBen (hY h p)).eraseIdx j)) (hok.2.2.1 p hp) o7p (okR_era o6p) o9p (by show ((pBen (hY h p)).eraseIdx j).length ≤ 6; have := era_len hj; omega))).2.2⟩ (mPF_1 (a := 3) (p := p) (v := nI (min 100 (pGold (hY h p) + cst (u / 10) * wor (u % 10)))) (by decide) (by decide) (by decide) (by decide)) (mpl_G (by
              have z := (modIs_pool (k := u / 10) (n := wor (u % 10)) hh1).2.2.2 p hp
              have e9 : hY (hQ h, incP (hP h) (u / 10) (wor (u % 10)), (setY h p (wB (hY h p) (pBrd (hY h p), (pBen (hY h p)).eraseIdx j))).2.2) p = wB (hY h p) (pBrd (hY h p), (pBen (hY h p)).eraseIdx j) := setY_at
              exact e9 ▸ z))
        exact sIret dX7_sell_98 rfl rfl (Nat.le_of_ble_eq_true rfl) (Nat.le_of_ble_eq_true rfl) ⟨_, rfl, ⟨by rw [sw_a (by omega), sw_a (by omega), e2.1 _ (by omega) (by omega), sw_s], fun _ => rfl, modIs_ext hh2 rfl rfl (fun i hi => (by
              show (if i = p then _ else if i = p then _ else hY h i) = if i = p then _ else hY h i
              by_cases e : i = p
              · rw [if_pos e, if_pos e]
              · rw [if_neg e, if_neg e, if_neg e])) rfl, fun b hb => by rw [sw_a (by omega), sw_a (by omega), e2.1 _ (by omega) (by omega), sw_a (by omega)]⟩⟩
      · have c_18 : 1 = 0 := (nz_eq (by omega)).mp c_18
        exact absurd c_18 (by omega)
  · refine r_if_eq (tgt := 14) dX7_sell_7 (by decide) (fun c_7 => ?_) (fun c_7 => ?_)
    · have c_7 : 0 = 0 := (nz_eq (by omega)).mp c_7
      have hF : fSell h x y = (1, 0, h) := by rcases ask_no (n := fun p => (pBen (hY h p)).length) no with e | ⟨p, e, e2⟩ <;> simp only [fSell, *]
      rw [hF]
      refine rIconst (v := (nI (1))) dX7_sell_14 (by decide) ?_
      refine sCallVi (M' := mX7_holds) (rm' := rmD 1 0 0) (As := [.int (nI 1)]) (rest := []) dX7_sell_15 rfl mk_X7_holds mi_X7_holds ll_X7_71 ⟨(Nat.le_of_ble_eq_true rfl), (Nat.le_of_ble_eq_true rfl)⟩ hm.1 (by decide) rfl rfl (Nat.le_of_ble_eq_true rfl) (Nat.le_of_ble_eq_true rfl) (c_X7_holds hm (by omega)) rfl (Nat.le_of_ble_eq_true rfl) (fun v15 t15 e15 => ?_)
      obtain ⟨rfl, rfl⟩ := e15
      refine tTop (w := (nI (0))) (if_neg (by decide)) ?_
      refine r_if_ne (tgt := 23) dX7_sell_18 (by decide) (fun c_18 => ?_) (fun c_18 => ?_)
      · have c_18 : ¬ (0 = 0) := fun h => c_18 ((nz_eq (by omega)).mpr h)
        exact absurd c_18 (by omega)
      · have c_18 : 0 = 0 := (nz_eq (by omega)).mp c_18
        refine rIconst (v := (nI (0))) dX7_sell_21 (by decide) ?_
        exact sIret dX7_sell_22 rfl rfl (Nat.le_of_ble_eq_true rfl) (Nat.le_of_ble_eq_true rfl) ⟨_, rfl, ⟨sw_s, fun e => absurd e (Nat.succ_ne_zero _), modIs_thr hh, fun b hb => sw_a (by omega)⟩⟩
    · have c_7 : ¬ (0 = 0) := fun h => c_7 ((nz_eq (by omega)).mpr h)
      exact absurd c_7 (by omega)
set_option maxRecDepth 100000 in
set_option maxHeartbeats 4000000 in
theorem c_X7_toBoard {G : gG} {V : wV} {lo : Nat → Int64} {m : Nat} (hm : modAt V m) {s : sgT} {h : hT} (hh : modIs s m h) {B : Nat} (hok : hallOk B h) (hB : B ≤ 19000) {x y : Int32} : CSi G V mX7_toBoard cX7_toBoard (rmD 9 0 0) [.ref (ad V m), .int x, .int y] s lo (fun v s' => mPost m s (fBoard h x y) v s') (fun _ => False) := by
  refine CSi.of (L := [some (.ref (ad V m)), some (.int x), some (.int y), none, none]) rfl (by decide +kernel) rfl (Nat.le_of_ble_eq_true rfl) rfl ?_
  refine rAload_n dX7_toBoard_0 rfl ?_
  refine rIload_n dX7_toBoard_1 rfl ?_
  refine rIload_n dX7_toBoard_2 rfl ?_
  refine sCallVp (M' := mX7_isOnBench) (rm' := rmD 3 0 0) (As := [.int x, .int y]) (rest := []) dX7_toBoard_3 rfl mk_X7_isOnBench mi_X7_isOnBench ll_X7_123 ⟨(Nat.le_of_ble_eq_true rfl), (Nat.le_of_ble_eq_true rfl)⟩ hm.1 (by decide) rfl rfl (Nat.le_of_ble_eq_true rfl) (Nat.le_of_ble_eq_true rfl) (c_X7_isOnBench hm hh hok hB) rfl (Nat.le_of_ble_eq_true rfl) (fun v e => ?_)
  rcases e with ⟨⟨p, hp, rfl, j, hj, rfl⟩, rfl⟩ | ⟨no, rfl⟩
  · have yp : mpl s m p (hY h p) := hh.2.2.2 p hp
    have bdp : mrow s (m + 11) (m + 12) p 5 (pBrd (hY h p)) := yp.2.2.2.2.2.2.1
    have bnp : mrow s (m + 9) (m + 10) p 6 (pBen (hY h p)) := yp.2.2.2.2.2.2.2
    obtain ⟨o1p, o2p, o3p, o4p, o5p, o6p, o7p, o8p, o9p⟩ := hok.2.2.1 p hp
    have ip : idx 4 (nI p) = some p := idx_nI hp (by decide)
    have ij : idx (pBen (hY h p)).length (nI j) = some j := idx_nI hj (by omega)
    refine rIstore_n dX7_toBoard_6 (by decide) ?_
    refine rAload_n dX7_toBoard_7 rfl ?_
    refine rIload_n dX7_toBoard_8 rfl ?_
    refine r_if_ne (tgt := 16) dX7_toBoard_9 (by decide) (fun c_9 => ?_) (fun c_9 => ?_)
    · have c_9 : ¬ (1 = 0) := fun h => c_9 ((nz_eq (by omega)).mpr h)
      obtain ⟨u, hu⟩ : ∃ u, u = (pBen (hY h p)).getD j 0 := ⟨_, rfl⟩
      have hu9 : okU u := hu ▸ o6p j hj
      have hu90 := okU_lt hu9
      have hu0 := hu9.1
      have q1 := bnp.2 j hj
      rw [← hu] at q1
      refine rAload_n dX7_toBoard_16 rfl ?_
      refine sGetR dX7_toBoard_17 fl_X7_41 hm.1 (by decide) rfl ?_
      refine rIload_n dX7_toBoard_20 rfl ?_
      refine nIald (v := (nI ((pBrd (hY h p)).length))) dX7_toBoard_21 hm.2.2.2.2.2.2.2.2.2.2.2.1 (by omega) (by omega) (by rw [bdp.1]) ?_
      refine rAload_n dX7_toBoard_22 rfl ?_
      refine sGetR dX7_toBoard_23 fl_X7_19 hm.1 (by decide) rfl ?_
      refine rIload_n dX7_toBoard_26 rfl ?_
      refine nIald (v := (nI (pLev (hY h p)))) dX7_toBoard_27 hm.2.2.2.2.1 (by omega) (by omega) (by rw [yp.2.1]) ?_
      refine r_icmp_ne (tgt := 35) dX7_toBoard_28 (by decide) (fun c_28 => ?_) (fun c_28 => ?_)
      · have c_28 : ¬ (((pBrd (hY h p)).length) = (pLev (hY h p))) := fun h => c_28 ((nI_eq (by omega) (by omega)).mpr h)
        have hF : fBoard h (nI p) (nI j) = (0, nI ((pBrd (hY h p)).length + 1), setY h p (wB (hY h p) (pBrd (hY h p) ++ [u], (pBen (hY h p)).eraseIdx j))) := by simp only [fBoard, ip, ij, if_neg (show ¬ pLev (hY h p) ≤ (pBrd (hY h p)).length by omega), ← hu]
        rw [hF]
        refine rIconst (v := (nI (0))) dX7_toBoard_35 (by decide) ?_
        refine sCallVi (M' := mX7_holds) (rm' := rmD 1 0 0) (As := [.int (nI 0)]) (rest := []) dX7_toBoard_36 rfl mk_X7_holds mi_X7_holds ll_X7_71 ⟨(Nat.le_of_ble_eq_true rfl), (Nat.le_of_ble_eq_true rfl)⟩ hm.1 (by decide) rfl rfl (Nat.le_of_ble_eq_true rfl) (Nat.le_of_ble_eq_true rfl) (c_X7_holds hm (by omega)) rfl (Nat.le_of_ble_eq_true rfl) (fun v36 t36 e36 => ?_)
        obtain ⟨rfl, rfl⟩ := e36
        refine tTop (w := (nI (1))) (if_pos rfl) ?_
        refine r_if_ne (tgt := 44) dX7_toBoard_39 (by decide) (fun c_39 => ?_) (fun c_39 => ?_)
        · have c_39 : ¬ (1 = 0) := fun h => c_39 ((nz_eq (by omega)).mpr h)
          refine rAload_n dX7_toBoard_44 rfl ?_
          refine sGetR dX7_toBoard_45 fl_X7_38 hm.1 (by decide) rfl ?_
          refine rBipush (v := (nI (6))) dX7_toBoard_48 (by decide) ?_
          refine rIload_n dX7_toBoard_50 rfl ?_
          refine nImul dX7_toBoard_51 ?_
          refine rIload_n dX7_toBoard_52 rfl ?_
          refine nIadd dX7_toBoard_53 ?_
          refine nIald (v := (nI (u))) dX7_toBoard_54 hm.2.2.2.2.2.2.2.2.2.2.1 (by omega) (by omega) (by rw [sw_a (by omega), q1]) ?_
          refine rIstore dX7_toBoard_55 (by decide) ?_
          refine rAload_n dX7_toBoard_57 rfl ?_
          refine rIload_n dX7_toBoard_58 rfl ?_
          refine rIload_n dX7_toBoard_59 rfl ?_
          refine sCallVv (M' := mX7_takesOffBench) (rm' := rmD 1 0 0) (As := [.int (nI p), .int (nI j)]) (rest := []) dX7_toBoard_60 rfl mk_X7_takesOffBench mi_X7_takesOffBench ll_X7_96 ⟨(Nat.le_of_ble_eq_true rfl), (Nat.le_of_ble_eq_true rfl)⟩ hm.1 (by decide) rfl rfl (Nat.le_of_ble_eq_true rfl) (Nat.le_of_ble_eq_true rfl) (c_X7_takesOffBench hm (mrow_keep bnp (by rw [sw_a (by omega)]) (fun i _ => by rw [sw_a (by omega)])) o8p hp hj) rfl (Nat.le_of_ble_eq_true rfl) (fun s1 e => ?_)
          obtain ⟨e1, e2⟩ := e
          have hb1 : mrow s1 (m + 11) (m + 12) p 5 (pBrd (hY h p)) := mrow_keep bdp (by rw [e2.1 _ (by omega) (by omega), sw_a (by omega)]) (fun i _ => by rw [e2.1 _ (by omega) (by omega), sw_a (by omega)])
          refine rAload_n dX7_toBoard_63 rfl ?_
          refine sGetR dX7_toBoard_64 fl_X7_44 hm.1 (by decide) rfl ?_
          refine rIconst (v := (nI (5))) dX7_toBoard_67 (by decide) ?_
          refine rIload_n dX7_toBoard_68 rfl ?_
          refine nImul dX7_toBoard_69 ?_
          refine rAload_n dX7_toBoard_70 rfl ?_
          refine sGetR dX7_toBoard_71 fl_X7_41 hm.1 (by decide) rfl ?_
          refine rIload_n dX7_toBoard_74 rfl ?_
          refine nIald (v := (nI ((pBrd (hY h p)).length))) dX7_toBoard_75 hm.2.2.2.2.2.2.2.2.2.2.2.1 (by omega) (by omega) (by rw [hb1.1]) ?_
          refine nIadd dX7_toBoard_76 ?_
          refine rIload dX7_toBoard_77 rfl ?_
          refine nIast dX7_toBoard_79 hm.2.2.2.2.2.2.2.2.2.2.2.2.1 (by omega) (by omega) ?_
          refine rAload_n dX7_toBoard_80 rfl ?_
          refine sGetR dX7_toBoard_81 fl_X7_41 hm.1 (by decide) rfl ?_
          refine rIload_n dX7_toBoard_84 rfl ?_
          refine rDup2 dX7_toBoard_85 rfl rfl ?_
          refine nIald (v := (nI ((pBrd (hY h p)).length))) dX7_toBoard_86 hm.2.2.2.2.2.2.2.2.2.2.2.1 (by omega) (by omega) (by rw [sw_a (by omega), hb1.1]) ?_
          refine rIconst (v := (nI (1))) dX7_toBoard_87 (by decide) ?_
          refine nIadd dX7_toBoard_88 ?_
          refine nIast dX7_toBoard_89 hm.2.2.2.2.2.2.2.2.2.2.2.1 (by omega) (by omega) ?_
          refine rAload_n dX7_toBoard_90 rfl ?_
          refine sGetR dX7_toBoard_91 fl_X7_41 hm.1 (by decide) rfl ?_
          refine rIload_n dX7_toBoard_94 rfl ?_
          refine nIald (v := (nI (((pBrd (hY h p)).length) + 1))) dX7_toBoard_95 hm.2.2.2.2.2.2.2.2.2.2.2.1 (by omega) (by omega) (by rw [sw_s]) ?_
          exact sIret dX7_toBoard_96 rfl rfl (Nat.le_of_ble_eq_true rfl) (Nat.le_of_ble_eq_true rfl) ⟨_, rfl, ⟨by rw [sw_a (by omega), sw_a (by omega), e2.1 _ (by omega) (by omega), sw_s], fun _ => rfl, modIs_P (s' := (sw (sw s1 (m + 12) (5 * p + (pBrd (hY h p)).length) (nI u)) (m + 11) p (nI ((pBrd (hY h p)).length + 1)))) (modIs_thr (v := nI 0) hh) hok ((e2.m6.trans (mPF_12 (by omega) (by omega))).trans (mPF_1 (a := 11) (by decide) (by decide) (by decide) (by decide))) (mPF.bb (mpl_thr yp) (fun a h1 h2 => by rw [sw_a (by omega), sw_a (by omega), e2.1 _ (by omega) (by omega)]) ⟨mrow_app hb1 (by omega), mrow_keep e1 (by rw [sw_a (by omega), sw_a (by omega)]) (fun i _ => by rw [sw_a (by omega), sw_a (by omega)])⟩), fun b hb => by rw [sw_a (by omega), sw_a (by omega), e2.1 _ (by omega) (by omega), sw_a (by omega)]⟩⟩
        · have c_39 : 1 = 0 := (nz_eq (by omega)).mp c_39
          exact absurd c_39 (by omega)
      · have c_28 : ((pBrd (hY h p)).length) = (pLev (hY h p)) := (nI_eq (by omega) (by omega)).mp c_28
        have hF : fBoard h (nI p) (nI j) = (2, 0, h) := by simp only [fBoard, ip, ij, if_pos (show pLev (hY h p) ≤ (pBrd (hY h p)).length by omega)]
        rw [hF]
        refine rIconst (v := (nI (2))) dX7_toBoard_31 (by decide) ?_
        refine rGoto (tgt := 36) dX7_toBoard_32 (by decide) ?_
        refine sCallVi (M' := mX7_holds) (rm' := rmD 1 0 0) (As := [.int (nI 2)]) (rest := []) dX7_toBoard_36 rfl mk_X7_holds mi_X7_holds ll_X7_71 ⟨(Nat.le_of_ble_eq_true rfl), (Nat.le_of_ble_eq_true rfl)⟩ hm.1 (by decide) rfl rfl (Nat.le_of_ble_eq_true rfl) (Nat.le_of_ble_eq_true rfl) (c_X7_holds hm (by omega)) rfl (Nat.le_of_ble_eq_true rfl) (fun v36 t36 e36 => ?_)
        obtain ⟨rfl, rfl⟩ := e36
        refine tTop (w := (nI (0))) (if_neg (by decide)) ?_
        refine r_if_ne (tgt := 44) dX7_toBoard_39 (by decide) (fun c_39 => ?_) (fun c_39 => ?_)
        · have c_39 : ¬ (0 = 0) := fun h => c_39 ((nz_eq (by omega)).mpr h)
          exact absurd c_39 (by omega)
        · have c_39 : 0 = 0 := (nz_eq (by omega)).mp c_39
          refine rIconst (v := (nI (0))) dX7_toBoard_42 (by decide) ?_
          exact sIret dX7_toBoard_43 rfl rfl (Nat.le_of_ble_eq_true rfl) (Nat.le_of_ble_eq_true rfl) ⟨_, rfl, ⟨sw_s, fun e => absurd e (Nat.succ_ne_zero _), modIs_thr hh, fun b hb => sw_a (by omega)⟩⟩
    · have c_9 : 1 = 0 := (nz_eq (by omega)).mp c_9
      exact absurd c_9 (by omega)
  · refine rIstore_n dX7_toBoard_6 (by decide) ?_
    refine rAload_n dX7_toBoard_7 rfl ?_
    refine rIload_n dX7_toBoard_8 rfl ?_
    refine r_if_ne (tgt := 16) dX7_toBoard_9 (by decide) (fun c_9 => ?_) (fun c_9 => ?_)
    · have c_9 : ¬ (0 = 0) := fun h => c_9 ((nz_eq (by omega)).mpr h)
      exact absurd c_9 (by omega)
    · have c_9 : 0 = 0 := (nz_eq (by omega)).mp c_9
      have hF : fBoard h x y = (1, 0, h) := by rcases ask_no (n := fun p => (pBen (hY h p)).length) no with e | ⟨p, e, e2⟩ <;> simp only [fBoard, *]
      rw [hF]
      refine rIconst (v := (nI (1))) dX7_toBoard_12 (by decide) ?_
      refine rGoto (tgt := 36) dX7_toBoard_13 (by decide) ?_
      refine sCallVi (M' := mX7_holds) (rm' := rmD 1 0 0) (As := [.int (nI 1)]) (rest := []) dX7_toBoard_36 rfl mk_X7_holds mi_X7_holds ll_X7_71 ⟨(Nat.le_of_ble_eq_true rfl), (Nat.le_of_ble_eq_true rfl)⟩ hm.1 (by decide) rfl rfl (Nat.le_of_ble_eq_true rfl) (Nat.le_of_ble_eq_true rfl) (c_X7_holds hm (by omega)) rfl (Nat.le_of_ble_eq_true rfl) (fun v36 t36 e36 => ?_)
      obtain ⟨rfl, rfl⟩ := e36
      refine tTop (w := (nI (0))) (if_neg (by decide)) ?_
      refine r_if_ne (tgt := 44) dX7_toBoard_39 (by decide) (fun c_39 => ?_) (fun c_39 => ?_)
      · have c_39 : ¬ (0 = 0) := fun h => c_39 ((nz_eq (by omega)).mpr h)
        exact absurd c_39 (by omega)
      · have c_39 : 0 = 0 := (nz_eq (by omega)).mp c_39
        refine rIconst (v := (nI (0))) dX7_toBoard_42 (by decide) ?_
        exact sIret dX7_toBoard_43 rfl rfl (Nat.le_of_ble_eq_true rfl) (Nat.le_of_ble_eq_true rfl) ⟨_, rfl, ⟨sw_s, fun e => absurd e (Nat.succ_ne_zero _), modIs_thr hh, fun b hb => sw_a (by omega)⟩⟩
set_option maxRecDepth 100000 in
set_option maxHeartbeats 4000000 in
theorem c_X7_alike {G : gG} {V : wV} {lo : Nat → Int64} {m : Nat} (hm : modAt V m) {s : sgT} {p u : Nat} {b : bbT} (hb : mbb s m p b) (ho : bbOk b) (hp : p < 4) (hu : u < 2 ^ 31) : CSp G V mX7_alike cX7_alike (rmD 1 0 0) [.ref (ad V m), .int (nI p), .int (nI u)] s lo (fun v => v = nI (cntU b u)) (fun _ => False) := by
  refine CSp.of (L := [some (.ref (ad V m)), some (.int (nI p)), some (.int (nI u)), none, none]) rfl (by decide +kernel) rfl (Nat.le_of_ble_eq_true rfl) rfl ?_
  obtain ⟨o1, o2, o3, o4⟩ := ho
  refine rIconst (v := (nI (0))) dX7_alike_0 (by decide) ?_
  refine rIstore_n dX7_alike_1 (by decide) ?_
  refine rIconst (v := (nI (0))) dX7_alike_2 (by decide) ?_
  refine rIstore dX7_alike_3 (by decide) ?_
  refine loopW (σ := Unit) (b.1.length) (fun i _ => [some (.ref (ad V m)), some (.int (nI p)), some (.int (nI u)), some (.int (nI ((b.1.take i).count u))), some (.int (nI i))]) (fun i _ => s) (fun i _ => True) (0) () (by omega) trivial (fun i _ hi hinv ih => ?_)
  refine rIload dX7_alike_5 rfl ?_
  refine rAload_n dX7_alike_7 rfl ?_
  refine sGetR dX7_alike_8 fl_X7_41 hm.1 (by decide) rfl ?_
  refine rIload_n dX7_alike_11 rfl ?_
  refine nIald (v := (nI (b.1.length))) dX7_alike_12 hm.2.2.2.2.2.2.2.2.2.2.2.1 (by omega) (by omega) (by rw [hb.1.1]) ?_
  refine r_icmp_ge (tgt := 45) dX7_alike_13 (by decide) (fun c_13 => ?_) (fun c_13 => ?_)
  · have c_13 : (b.1.length) ≤ i := (nI_leI (by omega) (by omega)).mp c_13
    have e : i = b.1.length := by omega
    subst e
    simp only [List.take_length]
    refine rIconst (v := (nI (0))) dX7_alike_45 (by decide) ?_
    refine rIstore dX7_alike_46 (by decide) ?_
    refine loopW (σ := Unit) (b.2.length) (fun j _ => [some (.ref (ad V m)), some (.int (nI p)), some (.int (nI u)), some (.int (nI (b.1.count u + (b.2.take j).count u))), some (.int (nI j))]) (fun j _ => s) (fun j _ => True) (0) () (by omega) trivial (fun j _ hj hjnv jh => ?_)
    refine rIload dX7_alike_48 rfl ?_
    refine rAload_n dX7_alike_50 rfl ?_
    refine sGetR dX7_alike_51 fl_X7_35 hm.1 (by decide) rfl ?_
    refine rIload_n dX7_alike_54 rfl ?_
    refine nIald (v := (nI (b.2.length))) dX7_alike_55 hm.2.2.2.2.2.2.2.2.2.1 (by omega) (by omega) (by rw [hb.2.1]) ?_
    refine r_icmp_ge (tgt := 89) dX7_alike_56 (by decide) (fun c_56 => ?_) (fun c_56 => ?_)
    · have c_56 : (b.2.length) ≤ j := (nI_leI (by omega) (by omega)).mp c_56
      have e : j = b.2.length := by omega
      subst e
      simp only [List.take_length]
      refine rIload_n dX7_alike_89 rfl ?_
      exact sIret dX7_alike_90 rfl rfl (Nat.le_of_ble_eq_true rfl) (Nat.le_of_ble_eq_true rfl) ⟨_, rfl, rfl, rfl⟩
    · have c_56 : ¬ ((b.2.length) ≤ j) := fun h => c_56 ((nI_leI (by omega) (by omega)).mpr h)
      have hk := okU_lt (o2 j (by omega))
      have hz := jh (by omega) () trivial
      rw [count_take (by omega), ← Nat.add_assoc] at hz
      refine rIload_n dX7_alike_59 rfl ?_
      refine rAload_n dX7_alike_60 rfl ?_
      refine sGetR dX7_alike_61 fl_X7_38 hm.1 (by decide) rfl ?_
      refine rBipush (v := (nI (6))) dX7_alike_64 (by decide) ?_
      refine rIload_n dX7_alike_66 rfl ?_
      refine nImul dX7_alike_67 ?_
      refine rIload dX7_alike_68 rfl ?_
      refine nIadd dX7_alike_70 ?_
      refine nIald (v := (nI (b.2.getD j 0))) dX7_alike_71 hm.2.2.2.2.2.2.2.2.2.2.1 (by omega) (by omega) (by rw [hb.2.2 j (by omega)]) ?_
      refine rIload_n dX7_alike_72 rfl ?_
      refine r_icmp_ne (tgt := 80) dX7_alike_73 (by decide) (fun c_73 => ?_) (fun c_73 => ?_)
      · have c_73 : ¬ ((b.2.getD j 0) = u) := fun h => c_73 ((nI_eq (by omega) (by omega)).mpr h)
        rw [if_neg c_73] at hz
        refine rIconst (v := (nI (0))) dX7_alike_80 (by decide) ?_
        refine nIadd dX7_alike_81 ?_
        refine rIstore_n dX7_alike_82 (by decide) ?_
        refine rIinc (v := (nI (j + 1))) dX7_alike_83 rfl (by first | exact nI_add _ _ | rfl) (by decide) ?_
        refine rGoto (tgt := 48) dX7_alike_86 (by decide) ?_
        exact hz
      · have c_73 : (b.2.getD j 0) = u := (nI_eq (by omega) (by omega)).mp c_73
        rw [if_pos c_73] at hz
        refine rIconst (v := (nI (1))) dX7_alike_76 (by decide) ?_
        refine rGoto (tgt := 81) dX7_alike_77 (by decide) ?_
        refine nIadd dX7_alike_81 ?_
        refine rIstore_n dX7_alike_82 (by decide) ?_
        refine rIinc (v := (nI (j + 1))) dX7_alike_83 rfl (by first | exact nI_add _ _ | rfl) (by decide) ?_
        refine rGoto (tgt := 48) dX7_alike_86 (by decide) ?_
        exact hz
  · have c_13 : ¬ ((b.1.length) ≤ i) := fun h => c_13 ((nI_leI (by omega) (by omega)).mpr h)
    have hk := okU_lt (o1 i (by omega))
    have hz := ih (by omega) () trivial
    rw [count_take (by omega)] at hz
    refine rIload_n dX7_alike_16 rfl ?_
    refine rAload_n dX7_alike_17 rfl ?_
    refine sGetR dX7_alike_18 fl_X7_44 hm.1 (by decide) rfl ?_
    refine rIconst (v := (nI (5))) dX7_alike_21 (by decide) ?_
    refine rIload_n dX7_alike_22 rfl ?_
    refine nImul dX7_alike_23 ?_
    refine rIload dX7_alike_24 rfl ?_
    refine nIadd dX7_alike_26 ?_
    refine nIald (v := (nI (b.1.getD i 0))) dX7_alike_27 hm.2.2.2.2.2.2.2.2.2.2.2.2.1 (by omega) (by omega) (by rw [hb.1.2 i (by omega)]) ?_
    refine rIload_n dX7_alike_28 rfl ?_
    refine r_icmp_ne (tgt := 36) dX7_alike_29 (by decide) (fun c_29 => ?_) (fun c_29 => ?_)
    · have c_29 : ¬ ((b.1.getD i 0) = u) := fun h => c_29 ((nI_eq (by omega) (by omega)).mpr h)
      rw [if_neg c_29] at hz
      refine rIconst (v := (nI (0))) dX7_alike_36 (by decide) ?_
      refine nIadd dX7_alike_37 ?_
      refine rIstore_n dX7_alike_38 (by decide) ?_
      refine rIinc (v := (nI (i + 1))) dX7_alike_39 rfl (by first | exact nI_add _ _ | rfl) (by decide) ?_
      refine rGoto (tgt := 5) dX7_alike_42 (by decide) ?_
      exact hz
    · have c_29 : (b.1.getD i 0) = u := (nI_eq (by omega) (by omega)).mp c_29
      rw [if_pos c_29] at hz
      refine rIconst (v := (nI (1))) dX7_alike_32 (by decide) ?_
      refine rGoto (tgt := 37) dX7_alike_33 (by decide) ?_
      refine nIadd dX7_alike_37 ?_
      refine rIstore_n dX7_alike_38 (by decide) ?_
      refine rIinc (v := (nI (i + 1))) dX7_alike_39 rfl (by first | exact nI_add _ _ | rfl) (by decide) ?_
      refine rGoto (tgt := 5) dX7_alike_42 (by decide) ?_
      exact hz
set_option maxRecDepth 100000 in
set_option maxHeartbeats 4000000 in
theorem c_X7_out {G : gG} {V : wV} {lo : Nat → Int64} {m : Nat} (hm : modAt V m) {s : sgT} {h : hT} (hh : modIs s m h) {B : Nat} (hok : hallOk B h) (hB : B ≤ 19000) {x : Int32} : CSi G V mX7_out cX7_out (rmD 9 0 0) [.ref (ad V m), .int x] s lo (fun v s' => mPost m s (fOut h x) v s') (fun _ => False) := by
  refine CSi.of (L := [some (.ref (ad V m)), some (.int x), none, none, none]) rfl (by decide +kernel) rfl (Nat.le_of_ble_eq_true rfl) rfl ?_
  refine rAload_n dX7_out_0 rfl ?_
  refine rIload_n dX7_out_1 rfl ?_
  refine sCallSp (M' := mX7_isKind) (rm' := rmD 2 0 0) (As := [.int x]) (rest := [.ref (ad V m)]) dX7_out_2 rfl mk_X7_isKind ms_X7_isKind ll_X7_166 ⟨(Nat.le_of_ble_eq_true rfl), (Nat.le_of_ble_eq_true rfl)⟩ rfl (Nat.le_of_ble_eq_true rfl) (Nat.le_of_ble_eq_true rfl) (c_X7_isKind) rfl (Nat.le_of_ble_eq_true rfl) (fun v e => ?_)
  rcases e with ⟨⟨k, hk, rfl⟩, rfl⟩ | ⟨nk, rfl⟩
  · refine r_if_eq (tgt := 12) dX7_out_5 (by decide) (fun c_5 => ?_) (fun c_5 => ?_)
    · have c_5 : 1 = 0 := (nz_eq (by omega)).mp c_5
      exact absurd c_5 (by omega)
    · have c_5 : ¬ (1 = 0) := fun h => c_5 ((nz_eq (by omega)).mpr h)
      have hF : fOut h (nI k) = (0, nI (outN h k 4), h) := by simp only [fOut, idx_nI hk (by decide)]
      rw [hF]
      refine rIconst (v := (nI (0))) dX7_out_8 (by decide) ?_
      refine rGoto (tgt := 13) dX7_out_9 (by decide) ?_
      refine sCallVi (M' := mX7_holds) (rm' := rmD 1 0 0) (As := [.int (nI 0)]) (rest := []) dX7_out_13 rfl mk_X7_holds mi_X7_holds ll_X7_71 ⟨(Nat.le_of_ble_eq_true rfl), (Nat.le_of_ble_eq_true rfl)⟩ hm.1 (by decide) rfl rfl (Nat.le_of_ble_eq_true rfl) (Nat.le_of_ble_eq_true rfl) (c_X7_holds hm (by omega)) rfl (Nat.le_of_ble_eq_true rfl) (fun v13 t13 e13 => ?_)
      obtain ⟨rfl, rfl⟩ := e13
      refine tTop (w := (nI (1))) (if_pos rfl) ?_
      refine r_if_ne (tgt := 21) dX7_out_16 (by decide) (fun c_16 => ?_) (fun c_16 => ?_)
      · have c_16 : ¬ (1 = 0) := fun h => c_16 ((nz_eq (by omega)).mpr h)
        refine rIconst (v := (nI (0))) dX7_out_21 (by decide) ?_
        refine rIstore_n dX7_out_22 (by decide) ?_
        refine rIconst (v := (nI (0))) dX7_out_23 (by decide) ?_
        refine rIstore_n dX7_out_24 (by decide) ?_
        refine loopW (σ := Unit) (12) (fun i _ => [some (.ref (ad V m)), some (.int (nI k)), some (.int (nI (shA h k i))), some (.int (nI i)), none]) (fun i _ => (sw s m 0 (nI (0)))) (fun i _ => True) (0) () (by omega) trivial (fun i _ hi hinv ih => ?_)
        refine rIload_n dX7_out_25 rfl ?_
        refine rBipush (v := (nI (12))) dX7_out_26 (by decide) ?_
        refine r_icmp_ge (tgt := 55) dX7_out_28 (by decide) (fun c_28 => ?_) (fun c_28 => ?_)
        · have c_28 : 12 ≤ i := (nI_leI (by omega) (by omega)).mp c_28
          have e : i = 12 := by omega
          subst e
          refine rIconst (v := (nI (0))) dX7_out_55 (by decide) ?_
          refine rIstore_n dX7_out_56 (by decide) ?_
          refine loopW (σ := Unit) (4) (fun j _ => [some (.ref (ad V m)), some (.int (nI k)), some (.int (nI (alA h k j))), some (.int (nI j)), none]) (fun j _ => (sw s m 0 (nI (0)))) (fun j _ => True) (0) () (by omega) trivial (fun j _ hj hjnv jh => ?_)
          refine rIload_n dX7_out_57 rfl ?_
          refine rIconst (v := (nI (4))) dX7_out_58 (by decide) ?_
          refine r_icmp_ge (tgt := 104) dX7_out_59 (by decide) (fun c_59 => ?_) (fun c_59 => ?_)
          · have c_59 : 4 ≤ j := (nI_leI (by omega) (by omega)).mp c_59
            have e : j = 4 := by omega
            subst e
            refine rIload_n dX7_out_104 rfl ?_
            exact sIret dX7_out_105 rfl rfl (Nat.le_of_ble_eq_true rfl) (Nat.le_of_ble_eq_true rfl) ⟨_, rfl, ⟨sw_s, fun _ => congrArg nI (alA_out hok), modIs_thr hh, fun b hb => sw_a (by omega)⟩⟩
          · have c_59 : ¬ (4 ≤ j) := fun h => c_59 ((nI_leI (by omega) (by omega)).mpr h)
            obtain ⟨o1, o2, o3, o4, o5, o6, o7, o8, o9⟩ := hok.2.2.1 j (by omega)
            have hbb : mbb (sw s m 0 (nI 0)) m j (pBrd (hY h j), pBen (hY h j)) := (mpl_thr (hh.2.2.2 j (by omega))).2.2.2.2.2.2
            have hbo : bbOk (pBrd (hY h j), pBen (hY h j)) := ⟨o7, o6, by show (pBrd (hY h j)).length ≤ 5; omega, o8⟩
            have hz := jh (by omega) () trivial
            simp only [alA] at hz
            refine rIconst (v := (nI (1))) dX7_out_62 (by decide) ?_
            refine rIstore dX7_out_63 (by decide) ?_
            refine rIload dX7_out_65 rfl ?_
            refine rIconst (v := (nI (3))) dX7_out_67 (by decide) ?_
            refine r_icmp_gt (tgt := 98) dX7_out_68 (by decide) (fun c_68 => ?_) (fun c_68 => ?_)
            · have c_68 : 3 < 1 := (nI_ltI (by omega) (by omega)).mp c_68
              exact absurd c_68 (by omega)
            · have c_68 : ¬ (3 < 1) := fun h => c_68 ((nI_ltI (by omega) (by omega)).mpr h)
              refine rIload_n dX7_out_71 rfl ?_
              refine rIload dX7_out_72 rfl ?_
              refine sCallSp (M' := mX7_worth) (rm' := rmD 1 0 0) (As := [.int (nI 1)]) (rest := [.int (nI (alA h k j))]) dX7_out_74 rfl mk_X7_worth ms_X7_worth ll_X7_126 ⟨(Nat.le_of_ble_eq_true rfl), (Nat.le_of_ble_eq_true rfl)⟩ rfl (Nat.le_of_ble_eq_true rfl) (Nat.le_of_ble_eq_true rfl) (c_X7_worth (by omega)) rfl (Nat.le_of_ble_eq_true rfl) (fun vw1 ew1 => ?_)
              refine tTop (w := (nI (1))) ew1 ?_
              refine rAload_n dX7_out_77 rfl ?_
              refine rIload_n dX7_out_78 rfl ?_
              refine rBipush (v := (nI (10))) dX7_out_79 (by decide) ?_
              refine rIload_n dX7_out_81 rfl ?_
              refine nImul dX7_out_82 ?_
              refine rIload dX7_out_83 rfl ?_
              refine nIadd dX7_out_85 ?_
              refine sCallVp (M' := mX7_alike) (rm' := rmD 1 0 0) (As := [.int (nI j), .int (nI ((10 * k) + 1))]) (rest := [.int (nI 1), .int (nI (alA h k j))]) dX7_out_86 rfl mk_X7_alike mi_X7_alike ll_X7_106 ⟨(Nat.le_of_ble_eq_true rfl), (Nat.le_of_ble_eq_true rfl)⟩ hm.1 (by decide) rfl rfl (Nat.le_of_ble_eq_true rfl) (Nat.le_of_ble_eq_true rfl) (c_X7_alike hm hbb hbo (by omega) (by omega)) rfl (Nat.le_of_ble_eq_true rfl) (fun va1 ea1 => ?_)
              refine tTop (w := (nI (cntU (pBrd (hY h j), pBen (hY h j)) (10 * k + 1)))) ea1 ?_
              refine nImul dX7_out_89 ?_
              refine nIadd dX7_out_90 ?_
              refine rIstore_n dX7_out_91 (by decide) ?_
              refine rIinc (v := (nI (1 + 1))) dX7_out_92 rfl (by first | exact nI_add _ _ | rfl) (by decide) ?_
              refine rGoto (tgt := 65) dX7_out_95 (by decide) ?_
              refine rIload dX7_out_65 rfl ?_
              refine rIconst (v := (nI (3))) dX7_out_67 (by decide) ?_
              refine r_icmp_gt (tgt := 98) dX7_out_68 (by decide) (fun c_68 => ?_) (fun c_68 => ?_)
              · have c_68 : 3 < 2 := (nI_ltI (by omega) (by omega)).mp c_68
                exact absurd c_68 (by omega)
              · have c_68 : ¬ (3 < 2) := fun h => c_68 ((nI_ltI (by omega) (by omega)).mpr h)
                refine rIload_n dX7_out_71 rfl ?_
                refine rIload dX7_out_72 rfl ?_
                refine sCallSp (M' := mX7_worth) (rm' := rmD 1 0 0) (As := [.int (nI 2)]) (rest := [.int (nI ((alA h k j) + (1 * (cntU (pBrd (hY h j), pBen (hY h j)) (10 * k + 1)))))]) dX7_out_74 rfl mk_X7_worth ms_X7_worth ll_X7_126 ⟨(Nat.le_of_ble_eq_true rfl), (Nat.le_of_ble_eq_true rfl)⟩ rfl (Nat.le_of_ble_eq_true rfl) (Nat.le_of_ble_eq_true rfl) (c_X7_worth (by omega)) rfl (Nat.le_of_ble_eq_true rfl) (fun vw2 ew2 => ?_)
                refine tTop (w := (nI (3))) ew2 ?_
                refine rAload_n dX7_out_77 rfl ?_
                refine rIload_n dX7_out_78 rfl ?_
                refine rBipush (v := (nI (10))) dX7_out_79 (by decide) ?_
                refine rIload_n dX7_out_81 rfl ?_
                refine nImul dX7_out_82 ?_
                refine rIload dX7_out_83 rfl ?_
                refine nIadd dX7_out_85 ?_
                refine sCallVp (M' := mX7_alike) (rm' := rmD 1 0 0) (As := [.int (nI j), .int (nI ((10 * k) + 2))]) (rest := [.int (nI 3), .int (nI ((alA h k j) + (1 * (cntU (pBrd (hY h j), pBen (hY h j)) (10 * k + 1)))))]) dX7_out_86 rfl mk_X7_alike mi_X7_alike ll_X7_106 ⟨(Nat.le_of_ble_eq_true rfl), (Nat.le_of_ble_eq_true rfl)⟩ hm.1 (by decide) rfl rfl (Nat.le_of_ble_eq_true rfl) (Nat.le_of_ble_eq_true rfl) (c_X7_alike hm hbb hbo (by omega) (by omega)) rfl (Nat.le_of_ble_eq_true rfl) (fun va2 ea2 => ?_)
                refine tTop (w := (nI (cntU (pBrd (hY h j), pBen (hY h j)) (10 * k + 2)))) ea2 ?_
                refine nImul dX7_out_89 ?_
                refine nIadd dX7_out_90 ?_
                refine rIstore_n dX7_out_91 (by decide) ?_
                refine rIinc (v := (nI (2 + 1))) dX7_out_92 rfl (by first | exact nI_add _ _ | rfl) (by decide) ?_
                refine rGoto (tgt := 65) dX7_out_95 (by decide) ?_
                refine rIload dX7_out_65 rfl ?_
                refine rIconst (v := (nI (3))) dX7_out_67 (by decide) ?_
                refine r_icmp_gt (tgt := 98) dX7_out_68 (by decide) (fun c_68 => ?_) (fun c_68 => ?_)
                · have c_68 : 3 < 3 := (nI_ltI (by omega) (by omega)).mp c_68
                  exact absurd c_68 (by omega)
                · have c_68 : ¬ (3 < 3) := fun h => c_68 ((nI_ltI (by omega) (by omega)).mpr h)
                  refine rIload_n dX7_out_71 rfl ?_
                  refine rIload dX7_out_72 rfl ?_
                  refine sCallSp (M' := mX7_worth) (rm' := rmD 1 0 0) (As := [.int (nI 3)]) (rest := [.int (nI (((alA h k j) + (1 * (cntU (pBrd (hY h j), pBen (hY h j)) (10 * k + 1)))) + (3 * (cntU (pBrd (hY h j), pBen (hY h j)) (10 * k + 2)))))]) dX7_out_74 rfl mk_X7_worth ms_X7_worth ll_X7_126 ⟨(Nat.le_of_ble_eq_true rfl), (Nat.le_of_ble_eq_true rfl)⟩ rfl (Nat.le_of_ble_eq_true rfl) (Nat.le_of_ble_eq_true rfl) (c_X7_worth (by omega)) rfl (Nat.le_of_ble_eq_true rfl) (fun vw3 ew3 => ?_)
                  refine tTop (w := (nI (9))) ew3 ?_
                  refine rAload_n dX7_out_77 rfl ?_
                  refine rIload_n dX7_out_78 rfl ?_
                  refine rBipush (v := (nI (10))) dX7_out_79 (by decide) ?_
                  refine rIload_n dX7_out_81 rfl ?_
                  refine nImul dX7_out_82 ?_
                  refine rIload dX7_out_83 rfl ?_
                  refine nIadd dX7_out_85 ?_
                  refine sCallVp (M' := mX7_alike) (rm' := rmD 1 0 0) (As := [.int (nI j), .int (nI ((10 * k) + 3))]) (rest := [.int (nI 9), .int (nI (((alA h k j) + (1 * (cntU (pBrd (hY h j), pBen (hY h j)) (10 * k + 1)))) + (3 * (cntU (pBrd (hY h j), pBen (hY h j)) (10 * k + 2)))))]) dX7_out_86 rfl mk_X7_alike mi_X7_alike ll_X7_106 ⟨(Nat.le_of_ble_eq_true rfl), (Nat.le_of_ble_eq_true rfl)⟩ hm.1 (by decide) rfl rfl (Nat.le_of_ble_eq_true rfl) (Nat.le_of_ble_eq_true rfl) (c_X7_alike hm hbb hbo (by omega) (by omega)) rfl (Nat.le_of_ble_eq_true rfl) (fun va3 ea3 => ?_)
                  refine tTop (w := (nI (cntU (pBrd (hY h j), pBen (hY h j)) (10 * k + 3)))) ea3 ?_
                  refine nImul dX7_out_89 ?_
                  refine nIadd dX7_out_90 ?_
                  refine rIstore_n dX7_out_91 (by decide) ?_
                  refine rIinc (v := (nI (3 + 1))) dX7_out_92 rfl (by first | exact nI_add _ _ | rfl) (by decide) ?_
                  refine rGoto (tgt := 65) dX7_out_95 (by decide) ?_
                  refine rIload dX7_out_65 rfl ?_
                  refine rIconst (v := (nI (3))) dX7_out_67 (by decide) ?_
                  refine r_icmp_gt (tgt := 98) dX7_out_68 (by decide) (fun c_68 => ?_) (fun c_68 => ?_)
                  · have c_68 : 3 < 4 := (nI_ltI (by omega) (by omega)).mp c_68
                    refine rIinc (v := (nI (j + 1))) dX7_out_98 rfl (by first | exact nI_add _ _ | rfl) (by decide) ?_
                    refine rGoto (tgt := 57) dX7_out_101 (by decide) ?_
                    refine rForget (L := [some (.ref (ad V m)), some (.int (nI k)), some (.int (nI ((((alA h k j) + (1 * (cntU (pBrd (hY h j), pBen (hY h j)) (10 * k + 1)))) + (3 * (cntU (pBrd (hY h j), pBen (hY h j)) (10 * k + 2)))) + (9 * (cntU (pBrd (hY h j), pBen (hY h j)) (10 * k + 3)))))), some (.int (nI (j + 1))), some (.int (nI 4))]) (L' := [some (.ref (ad V m)), some (.int (nI k)), some (.int (nI ((((alA h k j) + (1 * (cntU (pBrd (hY h j), pBen (hY h j)) (10 * k + 1)))) + (3 * (cntU (pBrd (hY h j), pBen (hY h j)) (10 * k + 2)))) + (9 * (cntU (pBrd (hY h j), pBen (hY h j)) (10 * k + 3)))))), some (.int (nI (j + 1))), none]) (by exact ⟨rfl, ⟨rfl, ⟨rfl, ⟨rfl, trivial⟩⟩⟩⟩) ?_
                    exact hz
                  · have c_68 : ¬ (3 < 4) := fun h => c_68 ((nI_ltI (by omega) (by omega)).mpr h)
                    exact absurd c_68 (by omega)
        · have c_28 : ¬ (12 ≤ i) := fun h => c_28 ((nI_leI (by omega) (by omega)).mpr h)
          have hz := ih (by omega) () trivial
          simp only [shA] at hz
          have hq := (hh.2.2.2 (i / 3) (by omega)).2.2.2.2.2.1 (i % 3) (by omega)
          rw [show 3 * (i / 3) + i % 3 = i by omega] at hq
          have hsi := shI_eq (o := pShp (hY h (i / 3)) (i % 3)) (k := k) (fun q e => (hok.2.2.1 (i / 3) (by omega)).2.2.2.2.1 (i % 3) (by omega) q e) (by omega)
          refine rIload_n dX7_out_31 rfl ?_
          refine rAload_n dX7_out_32 rfl ?_
          refine sGetR dX7_out_33 fl_X7_28 hm.1 (by decide) rfl ?_
          refine rIload_n dX7_out_36 rfl ?_
          refine nIald (v := (shI (pShp (hY h (i / 3)) (i % 3)))) dX7_out_37 hm.2.2.2.2.2.2.2.1 (by omega) (by omega) (by rw [sw_a (by omega), hq]) ?_
          refine rIload_n dX7_out_38 rfl ?_
          refine r_icmp_ne (tgt := 46) dX7_out_39 (by decide) (fun c_39 => ?_) (fun c_39 => ?_)
          · rw [if_neg (fun e => c_39 (hsi.mpr e))] at hz
            refine rIconst (v := (nI (0))) dX7_out_46 (by decide) ?_
            refine nIadd dX7_out_47 ?_
            refine rIstore_n dX7_out_48 (by decide) ?_
            refine rIinc (v := (nI (i + 1))) dX7_out_49 rfl (by first | exact nI_add _ _ | rfl) (by decide) ?_
            refine rGoto (tgt := 25) dX7_out_52 (by decide) ?_
            exact hz
          · rw [if_pos (hsi.mp c_39)] at hz
            refine rIconst (v := (nI (1))) dX7_out_42 (by decide) ?_
            refine rGoto (tgt := 47) dX7_out_43 (by decide) ?_
            refine nIadd dX7_out_47 ?_
            refine rIstore_n dX7_out_48 (by decide) ?_
            refine rIinc (v := (nI (i + 1))) dX7_out_49 rfl (by first | exact nI_add _ _ | rfl) (by decide) ?_
            refine rGoto (tgt := 25) dX7_out_52 (by decide) ?_
            exact hz
      · have c_16 : 1 = 0 := (nz_eq (by omega)).mp c_16
        exact absurd c_16 (by omega)
  · have ip := idx_not nk
    refine r_if_eq (tgt := 12) dX7_out_5 (by decide) (fun c_5 => ?_) (fun c_5 => ?_)
    · have c_5 : 0 = 0 := (nz_eq (by omega)).mp c_5
      have hF : fOut h x = (1, 0, h) := by simp only [fOut, ip]
      rw [hF]
      refine rIconst (v := (nI (1))) dX7_out_12 (by decide) ?_
      refine sCallVi (M' := mX7_holds) (rm' := rmD 1 0 0) (As := [.int (nI 1)]) (rest := []) dX7_out_13 rfl mk_X7_holds mi_X7_holds ll_X7_71 ⟨(Nat.le_of_ble_eq_true rfl), (Nat.le_of_ble_eq_true rfl)⟩ hm.1 (by decide) rfl rfl (Nat.le_of_ble_eq_true rfl) (Nat.le_of_ble_eq_true rfl) (c_X7_holds hm (by omega)) rfl (Nat.le_of_ble_eq_true rfl) (fun v13 t13 e13 => ?_)
      obtain ⟨rfl, rfl⟩ := e13
      refine tTop (w := (nI (0))) (if_neg (by decide)) ?_
      refine r_if_ne (tgt := 21) dX7_out_16 (by decide) (fun c_16 => ?_) (fun c_16 => ?_)
      · have c_16 : ¬ (0 = 0) := fun h => c_16 ((nz_eq (by omega)).mpr h)
        exact absurd c_16 (by omega)
      · have c_16 : 0 = 0 := (nz_eq (by omega)).mp c_16
        refine rIconst (v := (nI (0))) dX7_out_19 (by decide) ?_
        exact sIret dX7_out_20 rfl rfl (Nat.le_of_ble_eq_true rfl) (Nat.le_of_ble_eq_true rfl) ⟨_, rfl, ⟨sw_s, fun e => absurd e (Nat.succ_ne_zero _), modIs_thr hh, fun b hb => sw_a (by omega)⟩⟩
    · have c_5 : ¬ (0 = 0) := fun h => c_5 ((nz_eq (by omega)).mpr h)
      exact absurd c_5 (by omega)
