set_option maxRecDepth 100000 in
set_option maxHeartbeats 4000000 in
theorem c_X1_append {G : gG} {V : wV} {lo : Nat → Int64} {nb : Nat} {q : List Nat} (hn : shAt V nb (1, 0, [some (nb + 1), none, none]) ∧ shAt V (nb + 1) (8, 100, [])) {s : sgT} (h : numsIs s nb q) {x : Nat} (hlt : q.length < 100) : CSi G V mX1_append cX1_append (rmD 1 0 0) [.ref (ad V nb), .int (nI x)] s lo (fun v s' => numsIs s' nb (q ++ [x]) ∧ (∀ b, b ≠ nb → b ≠ nb + 1 → s' b = s b) ∧ v = nI 1) (fun _ => False) := by
  refine CSi.of (L := [some (.ref (ad V nb)), some (.int (nI x))]) rfl (by decide +kernel) rfl (Nat.le_of_ble_eq_true rfl) rfl ?_
  obtain ⟨f, hf, h1, h2, hq, h3⟩ := h
  refine rAload_n dX1_append_0 rfl ?_
  refine sGetI (x := (nI (q.length))) dX1_append_1 fl_X1_15 hn.1 (by decide) rfl (by rw [h2]) ?_
  refine rBipush (v := (nI (100))) dX1_append_4 (by decide) ?_
  refine r_icmp_lt (tgt := 11) dX1_append_6 (by decide) (fun c_6 => ?_) (fun c_6 => ?_)
  · have c_6 : (q.length) < 100 := (nI_ltI (by omega) (by omega)).mp c_6
    refine rAload_n dX1_append_11 rfl ?_
    refine sGetR dX1_append_12 fl_X1_9 hn.1 (by decide) rfl ?_
    refine rAload_n dX1_append_15 rfl ?_
    refine sGetI (x := (nI (f))) dX1_append_16 fl_X1_19 hn.1 (by decide) rfl (by rw [h1]) ?_
    refine rAload_n dX1_append_19 rfl ?_
    refine sGetI (x := (nI (q.length))) dX1_append_20 fl_X1_15 hn.1 (by decide) rfl (by rw [h2]) ?_
    refine nIadd dX1_append_23 ?_
    refine rBipush (v := (nI (100))) dX1_append_24 (by decide) ?_
    refine nIrem dX1_append_26 (by omega) (by decide) (by decide) ?_
    refine rIload_n dX1_append_27 rfl ?_
    refine nIast dX1_append_28 hn.2 (by omega) (by omega) ?_
    refine rAload_n dX1_append_29 rfl ?_
    refine rDup dX1_append_30 rfl ?_
    refine sGetI (x := (nI (q.length))) dX1_append_31 fl_X1_15 hn.1 (by decide) rfl (by rw [sw_a (by omega), h2]) ?_
    refine rIconst (v := (nI (1))) dX1_append_34 (by decide) ?_
    refine nIadd dX1_append_35 ?_
    refine sPutI dX1_append_36 fl_X1_15 ft_X1 rfl hn.1 (by decide) rfl rfl rfl ?_
    refine rIconst (v := (nI (1))) dX1_append_39 (by decide) ?_
    exact sIret dX1_append_40 rfl rfl (Nat.le_of_ble_eq_true rfl) (Nat.le_of_ble_eq_true rfl) ⟨_, rfl, ⟨⟨f, hf, (by rw [sw_i (by decide), sw_a (by omega)]; exact h1), (by rw [sw_s, List.length_append]; rfl), (by rw [List.length_append]; simp only [List.length_singleton]; omega), fun i hi => (by
            rw [List.length_append] at hi
            simp only [List.length_singleton] at hi
            rw [sw_a (by omega)]
            rcases Nat.lt_or_ge i q.length with z | z
            · rw [app_get z, sw_i (by omega)]
              exact h3 i z
            · have e : i = q.length := by omega
              subst e
              rw [app_last, sw_s])⟩, fun b h0 h1 => (by rw [sw_a h0, sw_a h1]), rfl⟩⟩
  · have c_6 : ¬ ((q.length) < 100) := fun h => c_6 ((nI_ltI (by omega) (by omega)).mpr h)
    exact absurd c_6 (by omega)
set_option maxRecDepth 100000 in
set_option maxHeartbeats 4000000 in
theorem c_X1_append0 {G : gG} {V : wV} {lo : Nat → Int64} {nb : Nat} {q : List Nat} (hn : shAt V nb (1, 0, [some (nb + 1), none, none]) ∧ shAt V (nb + 1) (8, 100, [])) {s : sgT} (h : numsIs s nb q) {x : Int32} (hlt : q.length = 100) : CSp G V mX1_append cX1_append (rmD 1 0 0) [.ref (ad V nb), .int x] s lo (fun v => v = nI 0) (fun _ => False) := by
  refine CSp.of (L := [some (.ref (ad V nb)), some (.int x)]) rfl (by decide +kernel) rfl (Nat.le_of_ble_eq_true rfl) rfl ?_
  obtain ⟨f, hf, h1, h2, hq, h3⟩ := h
  refine rAload_n dX1_append_0 rfl ?_
  refine sGetI (x := (nI (q.length))) dX1_append_1 fl_X1_15 hn.1 (by decide) rfl (by rw [h2]) ?_
  refine rBipush (v := (nI (100))) dX1_append_4 (by decide) ?_
  refine r_icmp_lt (tgt := 11) dX1_append_6 (by decide) (fun c_6 => ?_) (fun c_6 => ?_)
  · have c_6 : (q.length) < 100 := (nI_ltI (by omega) (by omega)).mp c_6
    exact absurd c_6 (by omega)
  · have c_6 : ¬ ((q.length) < 100) := fun h => c_6 ((nI_ltI (by omega) (by omega)).mpr h)
    refine rIconst (v := (nI (0))) dX1_append_9 (by decide) ?_
    exact sIret dX1_append_10 rfl rfl (Nat.le_of_ble_eq_true rfl) (Nat.le_of_ble_eq_true rfl) ⟨_, rfl, rfl, rfl⟩
set_option maxRecDepth 100000 in
set_option maxHeartbeats 4000000 in
theorem c_X1_take {G : gG} {V : wV} {lo : Nat → Int64} {nb : Nat} {q : List Nat} (hn : shAt V nb (1, 0, [some (nb + 1), none, none]) ∧ shAt V (nb + 1) (8, 100, [])) {s : sgT} (h : numsIs s nb q) : CSi G V mX1_take cX1_take (rmD 1 0 0) [.ref (ad V nb)] s lo (fun v s' => numsIs s' nb q.tail ∧ (∀ b, b ≠ nb → b ≠ nb + 1 → s' b = s b) ∧ v = nI (q.headD 0)) (fun _ => False) := by
  refine CSi.of (L := [some (.ref (ad V nb)), none]) rfl (by decide +kernel) rfl (Nat.le_of_ble_eq_true rfl) rfl ?_
  obtain ⟨f, hf, h1, h2, hq, h3⟩ := h
  refine rAload_n dX1_take_0 rfl ?_
  refine sGetI (x := (nI (q.length))) dX1_take_1 fl_X1_15 hn.1 (by decide) rfl (by rw [h2]) ?_
  refine r_if_ne (tgt := 9) dX1_take_4 (by decide) (fun c_4 => ?_) (fun c_4 => ?_)
  · have c_4 : ¬ ((q.length) = 0) := fun h => c_4 ((nz_eq (by omega)).mpr h)
    obtain ⟨x, q0, rfl⟩ : ∃ x q0, q = x :: q0 := (by cases q with | nil => exact absurd rfl c_4 | cons x q0 => exact ⟨x, q0, rfl⟩)
    have hx : s (nb + 1) f = nI x := (by have z := h3 0 (by simp); rw [show (f + 0) % 100 = f by omega] at z; exact z)
    simp only [List.length_cons] at h2 hq h3
    refine rAload_n dX1_take_9 rfl ?_
    refine sGetR dX1_take_10 fl_X1_9 hn.1 (by decide) rfl ?_
    refine rAload_n dX1_take_13 rfl ?_
    refine sGetI (x := (nI (f))) dX1_take_14 fl_X1_19 hn.1 (by decide) rfl (by rw [h1]) ?_
    refine nIald (v := (nI (x))) dX1_take_17 hn.2 (by omega) (by omega) (by rw [hx]) ?_
    refine rIstore_n dX1_take_18 (by decide) ?_
    refine rAload_n dX1_take_19 rfl ?_
    refine rAload_n dX1_take_20 rfl ?_
    refine sGetI (x := (nI (f))) dX1_take_21 fl_X1_19 hn.1 (by decide) rfl (by rw [h1]) ?_
    refine rIconst (v := (nI (1))) dX1_take_24 (by decide) ?_
    refine nIadd dX1_take_25 ?_
    refine rBipush (v := (nI (100))) dX1_take_26 (by decide) ?_
    refine nIrem dX1_take_28 (by omega) (by decide) (by decide) ?_
    refine sPutI dX1_take_29 fl_X1_19 ft_X1 rfl hn.1 (by decide) rfl rfl rfl ?_
    refine rAload_n dX1_take_32 rfl ?_
    refine rDup dX1_take_33 rfl ?_
    refine sGetI (x := (nI (q0.length + 1))) dX1_take_34 fl_X1_15 hn.1 (by decide) rfl (by rw [sw_i (by decide), h2]) ?_
    refine rIconst (v := (nI (1))) dX1_take_37 (by decide) ?_
    refine nIsub dX1_take_38 (by omega) ?_
    refine sPutI dX1_take_39 fl_X1_15 ft_X1 rfl hn.1 (by decide) rfl rfl rfl ?_
    refine rIload_n dX1_take_42 rfl ?_
    exact sIret dX1_take_43 rfl rfl (Nat.le_of_ble_eq_true rfl) (Nat.le_of_ble_eq_true rfl) ⟨_, rfl, ⟨⟨(f + 1) % 100, (by omega), (by rw [sw_i (by decide), sw_s]), (by rw [sw_s]; rfl), (by show q0.length ≤ 100; omega), fun i hi => (by
            have hi' : i < q0.length := hi
            rw [sw_a (by omega), sw_a (by omega)]
            have z := h3 (i + 1) (by omega)
            rw [show ((f + 1) % 100 + i) % 100 = (f + (i + 1)) % 100 by omega]
            exact z)⟩, fun b h0 h1 => (by rw [sw_a h0, sw_a h0]), rfl⟩⟩
  · have c_4 : (q.length) = 0 := (nz_eq (by omega)).mp c_4
    refine rIconst (v := (nI (0))) dX1_take_7 (by decide) ?_
    have e : q = [] := List.length_eq_zero_iff.mp c_4
    subst e
    exact sIret dX1_take_8 rfl rfl (Nat.le_of_ble_eq_true rfl) (Nat.le_of_ble_eq_true rfl) ⟨_, rfl, ⟨⟨f, hf, h1, h2, hq, h3⟩, fun _ _ _ => rfl, rfl⟩⟩
set_option maxRecDepth 100000 in
set_option maxHeartbeats 4000000 in
theorem c_X3_putBack {G : gG} {V : wV} {lo : Nat → Int64} {pb : Nat} {pl : Nat → Nat} (hn : shAt V pb (3, 0, [some (pb + 1)]) ∧ shAt V (pb + 1) (8, 9, [])) {s : sgT} (h : poolIs s (pb + 1) pl) {k c : Nat} (hk : k < 9) : CSv G V mX3_putBack cX3_putBack (rmD 1 0 0) [.ref (ad V pb), .int (nI k), .int (nI c)] s lo (fun s' => poolIs s' (pb + 1) (incP pl k c) ∧ (∀ b, b ≠ pb + 1 → s' b = s b)) (fun _ => False) := by
  refine CSv.of (L := [some (.ref (ad V pb)), some (.int (nI k)), some (.int (nI c))]) rfl (by decide +kernel) rfl (Nat.le_of_ble_eq_true rfl) rfl ?_
  refine rIload_n dX3_putBack_0 rfl ?_
  refine r_if_lt (tgt := 20) dX3_putBack_1 (by decide) (fun c_1 => ?_) (fun c_1 => ?_)
  · have c_1 : False := (nz_lt (by omega)).mp c_1
    exact c_1.elim
  · have c_1 : ¬ (False) := fun h => c_1 ((nz_lt (by omega)).mpr h)
    refine rIload_n dX3_putBack_4 rfl ?_
    refine rBipush (v := (nI (9))) dX3_putBack_5 (by decide) ?_
    refine r_icmp_ge (tgt := 20) dX3_putBack_7 (by decide) (fun c_7 => ?_) (fun c_7 => ?_)
    · have c_7 : 9 ≤ k := (nI_leI (by omega) (by omega)).mp c_7
      exact absurd c_7 (by omega)
    · have c_7 : ¬ (9 ≤ k) := fun h => c_7 ((nI_leI (by omega) (by omega)).mpr h)
      refine rAload_n dX3_putBack_10 rfl ?_
      refine sGetR dX3_putBack_11 fl_X3_9 hn.1 (by decide) rfl ?_
      refine rIload_n dX3_putBack_14 rfl ?_
      refine rDup2 dX3_putBack_15 rfl rfl ?_
      refine nIald (v := (nI (pl k))) dX3_putBack_16 hn.2 (by omega) (by omega) (by rw [h k hk]) ?_
      refine rIload_n dX3_putBack_17 rfl ?_
      refine nIadd dX3_putBack_18 ?_
      refine nIast dX3_putBack_19 hn.2 (by omega) (by omega) ?_
      exact sVret dX3_putBack_20 rfl (Nat.le_of_ble_eq_true rfl) (Nat.le_of_ble_eq_true rfl) ⟨rfl, ⟨fun j hj => (by
            unfold incP
            by_cases e : j = k
            · subst e
              rw [sw_s, if_pos rfl]
            · rw [sw_i e, if_neg e]
              exact h j hj), fun b hb => sw_a hb⟩⟩
set_option maxRecDepth 100000 in
set_option maxHeartbeats 4000000 in
theorem c_X3_putBack0 {G : gG} {V : wV} {lo : Nat → Int64} {pb : Nat} {s : sgT} {c : Nat} : CSu G V mX3_putBack cX3_putBack (rmD 1 0 0) [.ref (ad V pb), .int (-1), .int (nI c)] s lo True (fun _ => False) := by
  refine CSu.of (L := [some (.ref (ad V pb)), some (.int (-1)), some (.int (nI c))]) rfl (by decide +kernel) rfl (Nat.le_of_ble_eq_true rfl) rfl ?_
  refine rIload_n dX3_putBack_0 rfl ?_
  refine r_if_lt (tgt := 20) dX3_putBack_1 (by decide) (fun c_1 => ?_) (fun c_1 => ?_)
  · exact sVret dX3_putBack_20 rfl (Nat.le_of_ble_eq_true rfl) (Nat.le_of_ble_eq_true rfl) ⟨rfl, rfl, trivial⟩
  · exact absurd (by decide) c_1
set_option maxRecDepth 100000 in
set_option maxHeartbeats 4000000 in
theorem c_X3_unitsUpTo {G : gG} {V : wV} {lo : Nat → Int64} {pb : Nat} {pl : Nat → Nat} (hn : shAt V pb (3, 0, [some (pb + 1)]) ∧ shAt V (pb + 1) (8, 9, [])) {s : sgT} (h : poolIs s (pb + 1) pl) {B : Nat} (hB : poolOk B pl) (hBB : B ≤ 20000) {hc : Nat} (hh : hc < 2 ^ 31) : CSp G V mX3_unitsUpTo cX3_unitsUpTo (rmD 2 0 0) [.ref (ad V pb), .int (nI hc)] s lo (fun v => v = nI (upI pl hc 9)) (fun _ => False) := by
  refine CSp.of (L := [some (.ref (ad V pb)), some (.int (nI hc)), none, none]) rfl (by decide +kernel) rfl (Nat.le_of_ble_eq_true rfl) rfl ?_
  refine rIconst (v := (nI (0))) dX3_unitsUpTo_0 (by decide) ?_
  refine rIstore_n dX3_unitsUpTo_1 (by decide) ?_
  refine rIconst (v := (nI (0))) dX3_unitsUpTo_2 (by decide) ?_
  refine rIstore_n dX3_unitsUpTo_3 (by decide) ?_
  refine loopW (σ := Unit) (9) (fun i _ => [some (.ref (ad V pb)), some (.int (nI hc)), some (.int (nI (upI pl hc i))), some (.int (nI i))]) (fun i _ => s) (fun i _ => True) (0) () (by omega) trivial (fun i _ hi hinv ih => ?_)
  refine rIload_n dX3_unitsUpTo_4 rfl ?_
  refine rBipush (v := (nI (9))) dX3_unitsUpTo_5 (by decide) ?_
  refine r_icmp_ge (tgt := 33) dX3_unitsUpTo_7 (by decide) (fun c_7 => ?_) (fun c_7 => ?_)
  · have c_7 : 9 ≤ i := (nI_leI (by omega) (by omega)).mp c_7
    refine rIload_n dX3_unitsUpTo_33 rfl ?_
    have e : i = 9 := by omega
    subst e
    exact sIret dX3_unitsUpTo_34 rfl rfl (Nat.le_of_ble_eq_true rfl) (Nat.le_of_ble_eq_true rfl) ⟨_, rfl, rfl, rfl⟩
  · have c_7 : ¬ (9 ≤ i) := fun h => c_7 ((nI_leI (by omega) (by omega)).mpr h)
    refine rIload_n dX3_unitsUpTo_10 rfl ?_
    refine sCallSp (M' := mX6_costOf) (rm' := rmD 1 0 0) (As := [.int (nI i)]) (rest := []) dX3_unitsUpTo_11 rfl mk_X6_costOf ms_X6_costOf ll_X3_15 ⟨(Nat.le_of_ble_eq_true rfl), (Nat.le_of_ble_eq_true rfl)⟩ rfl (Nat.le_of_ble_eq_true rfl) (Nat.le_of_ble_eq_true rfl) (c_X6_costOf (by omega)) rfl (Nat.le_of_ble_eq_true rfl) (fun v e => ?_)
    refine tTop (w := (nI (cst i))) e ?_
    have hcs : cst i < 2 ^ 31 := (by unfold cst; omega)
    have hup : upI pl hc (i + 1) = upI pl hc i + if cst i ≤ hc then pl i else 0 := rfl
    refine rIload_n dX3_unitsUpTo_14 rfl ?_
    refine r_icmp_gt (tgt := 27) dX3_unitsUpTo_15 (by decide) (fun c_15 => ?_) (fun c_15 => ?_)
    · have c_15 : hc < (cst i) := (nI_ltI (by omega) (by omega)).mp c_15
      refine rIinc (v := (nI (i + 1))) dX3_unitsUpTo_27 rfl (by first | exact nI_add _ _ | rfl) (by decide) ?_
      refine rGoto (tgt := 4) dX3_unitsUpTo_30 (by decide) ?_
      rw [if_neg (by omega), Nat.add_zero] at hup
      have hz := ih (by omega) () trivial
      rw [hup] at hz
      exact hz
    · have c_15 : ¬ (hc < (cst i)) := fun h => c_15 ((nI_ltI (by omega) (by omega)).mpr h)
      refine rIload_n dX3_unitsUpTo_18 rfl ?_
      refine rAload_n dX3_unitsUpTo_19 rfl ?_
      refine sGetR dX3_unitsUpTo_20 fl_X3_9 hn.1 (by decide) rfl ?_
      refine rIload_n dX3_unitsUpTo_23 rfl ?_
      refine nIald (v := (nI (pl i))) dX3_unitsUpTo_24 hn.2 (by omega) (by omega) (by rw [h i (by omega)]) ?_
      refine nIadd dX3_unitsUpTo_25 ?_
      refine rIstore_n dX3_unitsUpTo_26 (by decide) ?_
      refine rIinc (v := (nI (i + 1))) dX3_unitsUpTo_27 rfl (by first | exact nI_add _ _ | rfl) (by decide) ?_
      refine rGoto (tgt := 4) dX3_unitsUpTo_30 (by decide) ?_
      rw [if_pos (by omega)] at hup
      have hz := ih (by omega) () trivial
      rw [hup] at hz
      exact hz
set_option maxRecDepth 100000 in
set_option maxHeartbeats 4000000 in
theorem c_X3_draw {G : gG} {V : wV} {lo : Nat → Int64} {pb : Nat} {pl : Nat → Nat} (hn : shAt V pb (3, 0, [some (pb + 1)]) ∧ shAt V (pb + 1) (8, 9, [])) {s : sgT} (h : poolIs s (pb + 1) pl) {B : Nat} (hB : poolOk B pl) (hBB : B ≤ 20000) {n hc : Nat} (hnn : n < 2 ^ 31) (hh : hc < 2 ^ 31) : CSi G V mX3_draw cX3_draw (rmD 3 0 0) [.ref (ad V pb), .int (nI n), .int (nI hc)] s lo (fun v s' => poolIs s' (pb + 1) (decP pl (drawR pl n hc)) ∧ (∀ b, b ≠ pb + 1 → s' b = s b) ∧ v = shI (drawR pl n hc)) (fun _ => False) := by
  refine CSi.of (L := [some (.ref (ad V pb)), some (.int (nI n)), some (.int (nI hc)), none, none, none]) rfl (by decide +kernel) rfl (Nat.le_of_ble_eq_true rfl) rfl ?_
  refine rAload_n dX3_draw_0 rfl ?_
  refine rIload_n dX3_draw_1 rfl ?_
  refine sCallVp (M' := mX3_unitsUpTo) (rm' := rmD 2 0 0) (As := [.int (nI hc)]) (rest := []) dX3_draw_2 rfl mk_X3_unitsUpTo mi_X3_unitsUpTo ll_X3_19 ⟨(Nat.le_of_ble_eq_true rfl), (Nat.le_of_ble_eq_true rfl)⟩ hn.1 (by decide) rfl rfl (Nat.le_of_ble_eq_true rfl) (Nat.le_of_ble_eq_true rfl) (c_X3_unitsUpTo hn h hB hBB hh) rfl (Nat.le_of_ble_eq_true rfl) (fun v e => ?_)
  obtain ⟨up, hup⟩ : ∃ z, z = upI pl hc 9 := ⟨_, rfl⟩
  have hul : up ≤ 9 * B := hup ▸ upI_le hB 9 (Nat.le_refl _)
  refine tTop (w := (nI (up))) (by rw [e, hup]) ?_
  refine rIstore_n dX3_draw_5 (by decide) ?_
  refine rIload_n dX3_draw_6 rfl ?_
  refine r_if_gt (tgt := 12) dX3_draw_7 (by decide) (fun c_7 => ?_) (fun c_7 => ?_)
  · have c_7 : 0 < up := (nz_gt (by omega)).mp c_7
    have hdr : drawR pl n hc = pickF pl 9 0 (n % up) := (by unfold drawR; rw [← hup, if_neg (by omega)])
    have hml := Nat.mod_lt n (show 0 < up by omega)
    refine rIload_n dX3_draw_12 rfl ?_
    refine rIload_n dX3_draw_13 rfl ?_
    refine nIrem dX3_draw_14 (by omega) (by omega) (by omega) ?_
    refine rIstore dX3_draw_15 (by decide) ?_
    refine rIconst (v := (nI (0))) dX3_draw_17 (by decide) ?_
    refine rIstore dX3_draw_18 (by decide) ?_
    refine loopW (σ := Nat) (9) (fun i p => [some (.ref (ad V pb)), some (.int (nI n)), some (.int (nI hc)), some (.int (nI up)), some (.int (nI p)), some (.int (nI i))]) (fun i p => s) (fun i p => p < 2 ^ 31 ∧ pickF pl (9 - i) i p = drawR pl n hc) (0) (n % up) (by omega) ⟨(by omega), hdr.symm⟩ (fun i p hi hinv ih => ?_)
    obtain ⟨hp, hpk⟩ := hinv
    refine rIload dX3_draw_20 rfl ?_
    refine rBipush (v := (nI (9))) dX3_draw_22 (by decide) ?_
    refine r_icmp_ge (tgt := 71) dX3_draw_24 (by decide) (fun c_24 => ?_) (fun c_24 => ?_)
    · have c_24 : 9 ≤ i := (nI_leI (by omega) (by omega)).mp c_24
      refine rIconst (v := (-1)) dX3_draw_71 (by decide) ?_
      have e : i = 9 := by omega
      subst e
      rw [← hpk]
      exact sIret dX3_draw_72 rfl rfl (Nat.le_of_ble_eq_true rfl) (Nat.le_of_ble_eq_true rfl) ⟨_, rfl, ⟨h, fun _ _ => rfl, rfl⟩⟩
    · have c_24 : ¬ (9 ≤ i) := fun h => c_24 ((nI_leI (by omega) (by omega)).mpr h)
      have hpi := hB i (by omega)
      rw [show 9 - i = (9 - (i + 1)) + 1 by omega] at hpk
      simp only [pickF] at hpk
      refine rIload dX3_draw_27 rfl ?_
      refine rAload_n dX3_draw_29 rfl ?_
      refine sGetR dX3_draw_30 fl_X3_9 hn.1 (by decide) rfl ?_
      refine rIload dX3_draw_33 rfl ?_
      refine nIald (v := (nI (pl i))) dX3_draw_35 hn.2 (by omega) (by omega) (by rw [h i (by omega)]) ?_
      refine r_icmp_ge (tgt := 53) dX3_draw_36 (by decide) (fun c_36 => ?_) (fun c_36 => ?_)
      · have c_36 : (pl i) ≤ p := (nI_leI (by omega) (by omega)).mp c_36
        refine rIload dX3_draw_53 rfl ?_
        refine rAload_n dX3_draw_55 rfl ?_
        refine sGetR dX3_draw_56 fl_X3_9 hn.1 (by decide) rfl ?_
        refine rIload dX3_draw_59 rfl ?_
        refine nIald (v := (nI (pl i))) dX3_draw_61 hn.2 (by omega) (by omega) (by rw [h i (by omega)]) ?_
        refine nIsub dX3_draw_62 (by omega) ?_
        refine rIstore dX3_draw_63 (by decide) ?_
        refine rIinc (v := (nI (i + 1))) dX3_draw_65 rfl (by first | exact nI_add _ _ | rfl) (by decide) ?_
        refine rGoto (tgt := 20) dX3_draw_68 (by decide) ?_
        rw [if_neg (by omega)] at hpk
        exact ih (by omega) _ ⟨(by omega), hpk⟩
      · have c_36 : ¬ ((pl i) ≤ p) := fun h => c_36 ((nI_leI (by omega) (by omega)).mpr h)
        rw [if_pos (by omega)] at hpk
        refine rAload_n dX3_draw_39 rfl ?_
        refine sGetR dX3_draw_40 fl_X3_9 hn.1 (by decide) rfl ?_
        refine rIload dX3_draw_43 rfl ?_
        refine rDup2 dX3_draw_45 rfl rfl ?_
        refine nIald (v := (nI (pl i))) dX3_draw_46 hn.2 (by omega) (by omega) (by rw [h i (by omega)]) ?_
        refine rIconst (v := (nI (1))) dX3_draw_47 (by decide) ?_
        refine nIsub dX3_draw_48 (by omega) ?_
        refine nIast dX3_draw_49 hn.2 (by omega) (by omega) ?_
        refine rIload dX3_draw_50 rfl ?_
        rw [← hpk]
        exact sIret dX3_draw_52 rfl rfl (Nat.le_of_ble_eq_true rfl) (Nat.le_of_ble_eq_true rfl) ⟨_, rfl, ⟨fun j hj => (by
                  show _ = nI (if j = i then pl j - 1 else pl j)
                  by_cases e : j = i
                  · subst e
                    rw [sw_s, if_pos rfl]
                  · rw [sw_i e, if_neg e]
                    exact h j hj), fun b hb => sw_a hb, rfl⟩⟩
  · have c_7 : ¬ (0 < up) := fun h => c_7 ((nz_gt (by omega)).mpr h)
    refine rIconst (v := (-1)) dX3_draw_10 (by decide) ?_
    have e : drawR pl n hc = none := (by unfold drawR; rw [← hup, if_pos (by omega)])
    rw [e]
    exact sIret dX3_draw_11 rfl rfl (Nat.le_of_ble_eq_true rfl) (Nat.le_of_ble_eq_true rfl) ⟨_, rfl, ⟨h, fun _ _ => rfl, rfl⟩⟩
