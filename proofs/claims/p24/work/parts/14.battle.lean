/-- what holds ahead of blow i -/
def fInv (n0 n1 : Nat) (g0 g1 : Nat → Int32) (R : List (Nat × Int32)) (Z : zT) (B : Nat) (s : sgT) (i : Nat) (y : sgT) (a0 : Nat → Int32) (u0 : Nat) (a1 : Nat → Int32) (u1 : Nat) (pre : List (Nat × Int32)) : Prop :=
  sideIs y (B + 1) n0 a0 g0 u0 ∧ sideIs y (B + 4) n1 a1 g1 u1 ∧ y B 4 = nI i ∧ (∀ j, j < i → y (B + 7) j = nI (R.getD j (0, 0)).1 ∧ y (B + 8) j = (R.getD j (0, 0)).2) ∧ (∀ b, b < B ∨ B + 9 ≤ b → y b = s b) ∧ pre.length = i ∧ R = pre ++ recF n0 n1 g0 g1 (60 - i) i (a0, u0, a1, u1) ∧ fightN n0 n1 g0 g1 (60 - i) i (a0, u0, a1, u1) = Z
theorem sideIs_keep {s s' : sgT} {d n t : Nat} {h g : Nat → Int32} (e : sideIs s d n h g t) (h0 : s' d = s d) (h1 : s' (d + 1) = s (d + 1)) (h2 : s' (d + 2) = s (d + 2)) : sideIs s' d n h g t := by
  unfold sideIs at e ⊢
  rw [h0, h1, h2]
  exact e
/-- the record as it lies -/
def logIs (s : sgT) (B : Nat) (R : List (Nat × Int32)) : Prop := s B 4 = nI R.length ∧ (∀ j, j < R.length → s (B + 7) j = nI (R.getD j (0, 0)).1 ∧ s (B + 8) j = (R.getD j (0, 0)).2) ∧ R.length ≤ 60
set_option maxRecDepth 100000 in
set_option maxHeartbeats 4000000 in
theorem c_X4_muster {G : gG} {V : wV} {lo : Nat → Int64} {d r m : Nat} {l : List Nat} (hd : sideAt V d) (hr : rowAt V r m) (hm : m ≤ 6) (hl : l.length ≤ m) (hl5 : l.length ≤ 5) (hrd : r + 3 ≤ d ∨ d + 3 ≤ r) {s : sgT} (h : rowIs s r l) (ho : okR l) : CSv G V mX4_muster cX4_muster (rmD 3 0 0) [.ref (ad V d), .ref (ad V r)] s lo (fun s' => sideIs s' d l.length (fun i => nI (hthN (l.getD i 0))) (gF l) 0 ∧ (∀ b, b ≠ d → b ≠ d + 1 → b ≠ d + 2 → s' b = s b)) (fun _ => False) := by
  refine CSv.of (L := [some (.ref (ad V d)), some (.ref (ad V r)), none]) rfl (by decide +kernel) rfl (Nat.le_of_ble_eq_true rfl) rfl ?_
  refine rAload_n dX4_muster_0 rfl ?_
  refine rAload_n dX4_muster_1 rfl ?_
  refine sGetI (x := (nI (l.length))) dX4_muster_2 fl_X4_18 hr.1 (by decide) rfl (by rw [h.1]) ?_
  refine rIconst (v := (nI (5))) dX4_muster_5 (by decide) ?_
  refine rMin dX4_muster_6 lm_X4_24 wd_ms wd_mi wd_mc (Nat.le_of_ble_eq_true rfl) (Nat.le_of_ble_eq_true rfl) (Nat.le_of_ble_eq_true rfl) (Nat.le_of_ble_eq_true rfl) ?_
  refine tTop (w := (nI (min (l.length) 5))) (minI (by omega) (by omega)) ?_
  refine tTop (w := (nI (l.length))) (congrArg nI (by omega)) ?_
  refine sPutI dX4_muster_9 fl_X4_30 ft_X4 rfl hd.1 (by decide) rfl rfl rfl ?_
  refine rAload_n dX4_muster_12 rfl ?_
  refine rIconst (v := (nI (0))) dX4_muster_13 (by decide) ?_
  refine sPutI dX4_muster_14 fl_X4_31 ft_X4 rfl hd.1 (by decide) rfl rfl rfl ?_
  refine rIconst (v := (nI (0))) dX4_muster_17 (by decide) ?_
  refine rIstore_n dX4_muster_18 (by decide) ?_
  refine loopW (σ := sgT) (l.length) (fun i y => [some (.ref (ad V d)), some (.ref (ad V r)), some (.int (nI i))]) (fun i y => y) (fun i y => y d 2 = nI l.length ∧ y d 3 = nI 0 ∧ (∀ b, b ≠ d → b ≠ d + 1 → b ≠ d + 2 → y b = s b) ∧ ∀ j, j < i → y (d + 1) j = nI (hthN (l.getD j 0)) ∧ y (d + 2) j = gF l j) (0) (sw (sw s d 2 (nI (l.length))) d 3 (nI (0))) (by omega) ⟨by rw [sw_i (by decide), sw_s], sw_s, fun b e1 e2 e3 => by rw [sw_a e1, sw_a e1], fun j hj => absurd hj (by omega)⟩ (fun i y hi hinv ih => ?_)
  obtain ⟨v1, v2, v3, v4⟩ := hinv
  have hrow : rowIs y r l := rowIs_keep h (v3 _ (by omega) (by omega) (by omega)) (v3 _ (by omega) (by omega) (by omega)) (v3 _ (by omega) (by omega) (by omega))
  refine rIload_n dX4_muster_19 rfl ?_
  refine rAload_n dX4_muster_20 rfl ?_
  refine sGetI (x := (nI (l.length))) dX4_muster_21 fl_X4_30 hd.1 (by decide) rfl (by rw [v1]) ?_
  refine r_icmp_ge (tgt := 55) dX4_muster_24 (by decide) (fun c_24 => ?_) (fun c_24 => ?_)
  · have c_24 : (l.length) ≤ i := (nI_leI (by omega) (by omega)).mp c_24
    have e : i = l.length := by omega
    subst e
    exact sVret dX4_muster_55 rfl (Nat.le_of_ble_eq_true rfl) (Nat.le_of_ble_eq_true rfl) ⟨rfl, ⟨⟨hl5, v1, ⟨0, by omega, v2, fun _ => Nat.zero_mod _⟩, v4⟩, v3⟩⟩
  · have c_24 : ¬ ((l.length) ≤ i) := fun h => c_24 ((nI_leI (by omega) (by omega)).mpr h)
    refine rAload_n dX4_muster_27 rfl ?_
    refine sGetR dX4_muster_28 fl_X4_9 hd.1 (by decide) rfl ?_
    refine rIload_n dX4_muster_31 rfl ?_
    refine rAload_n dX4_muster_32 rfl ?_
    refine rIload_n dX4_muster_33 rfl ?_
    refine sCallVp (M' := mX5_healthAt) (rm' := rmD 2 0 0) (As := [.int (nI i)]) (rest := [.int (nI i), .ref (ad V (d + 1))]) dX4_muster_34 rfl mk_X5_healthAt mi_X5_healthAt ll_X4_34 ⟨(Nat.le_of_ble_eq_true rfl), (Nat.le_of_ble_eq_true rfl)⟩ hr.1 (by decide) rfl rfl (Nat.le_of_ble_eq_true rfl) (Nat.le_of_ble_eq_true rfl) (c_X5_healthAt hr hm hl hrow ho (by omega)) rfl (Nat.le_of_ble_eq_true rfl) (fun v e1 => ?_)
    refine tTop (w := (nI (hthN (l.getD i 0)))) e1 ?_
    refine nIast dX4_muster_37 hd.2.1 (by omega) (by omega) ?_
    refine rAload_n dX4_muster_38 rfl ?_
    refine sGetR dX4_muster_39 fl_X4_15 hd.1 (by decide) rfl ?_
    refine rIload_n dX4_muster_42 rfl ?_
    refine rAload_n dX4_muster_43 rfl ?_
    refine rIload_n dX4_muster_44 rfl ?_
    have hrow2 : rowIs (sw y (d + 1) i (nI (hthN (l.getD i 0)))) r l := rowIs_keep hrow (sw_a (by omega)) (sw_a (by omega)) (sw_a (by omega))
    refine sCallVp (M' := mX5_strengthAt) (rm' := rmD 2 0 0) (As := [.int (nI i)]) (rest := [.int (nI i), .ref (ad V (d + 2))]) dX4_muster_45 rfl mk_X5_strengthAt mi_X5_strengthAt ll_X4_38 ⟨(Nat.le_of_ble_eq_true rfl), (Nat.le_of_ble_eq_true rfl)⟩ hr.1 (by decide) rfl rfl (Nat.le_of_ble_eq_true rfl) (Nat.le_of_ble_eq_true rfl) (c_X5_strengthAt hr hm hl hrow2 ho (by omega)) rfl (Nat.le_of_ble_eq_true rfl) (fun v e2 => ?_)
    refine tTop (w := (nI (strN l (l.getD i 0)))) e2 ?_
    refine nIast dX4_muster_48 hd.2.2 (by omega) (by omega) ?_
    refine rIinc (v := (nI (i + 1))) dX4_muster_49 rfl (by first | exact nI_add _ _ | rfl) (by decide) ?_
    refine rGoto (tgt := 19) dX4_muster_52 (by decide) ?_
    exact ih (by omega) _ ⟨by rw [sw_a (by omega), sw_a (by omega)]; exact v1, by rw [sw_a (by omega), sw_a (by omega)]; exact v2, fun b e1 e2 e3 => by rw [sw_a e3, sw_a e2]; exact v3 b e1 e2 e3, fun j hj => (by
          rw [sw_a (by omega)]
          rcases Nat.lt_or_ge j i with q | q
          · rw [sw_i (by omega), sw_i (by omega), sw_a (by omega)]
            exact v4 j q
          · have e : j = i := by omega
            subst e
            rw [sw_s, sw_s]
            exact ⟨rfl, rfl⟩)⟩
set_option maxRecDepth 100000 in
set_option maxHeartbeats 4000000 in
theorem c_X4_takeBlow {G : gG} {V : wV} {lo : Nat → Int64} {d n t : Nat} {hh g : Nat → Int32} (hd : sideAt V d) {s : sgT} (h : sideIs s d n hh g t) {b : Nat} {z : Int32} (hb : b < n) : CSv G V mX4_takeBlow cX4_takeBlow (rmD 1 0 0) [.ref (ad V d), .int (nI b), .int z] s lo (fun s' => s' = sw s (d + 1) b (hh b - z)) (fun _ => False) := by
  refine CSv.of (L := [some (.ref (ad V d)), some (.int (nI b)), some (.int z)]) rfl (by decide +kernel) rfl (Nat.le_of_ble_eq_true rfl) rfl ?_
  obtain ⟨h1, h2, ⟨tc, h3, h4, h5⟩, h6⟩ := id h
  refine rIload_n dX4_takeBlow_0 rfl ?_
  refine r_if_lt (tgt := 22) dX4_takeBlow_1 (by decide) (fun c_1 => ?_) (fun c_1 => ?_)
  · have c_1 : False := (nz_lt (by omega)).mp c_1
    exact c_1.elim
  · have c_1 : ¬ (False) := fun h => c_1 ((nz_lt (by omega)).mpr h)
    refine rIload_n dX4_takeBlow_4 rfl ?_
    refine rAload_n dX4_takeBlow_5 rfl ?_
    refine sGetI (x := (nI (n))) dX4_takeBlow_6 fl_X4_30 hd.1 (by decide) rfl (by rw [h2]) ?_
    refine r_icmp_ge (tgt := 22) dX4_takeBlow_9 (by decide) (fun c_9 => ?_) (fun c_9 => ?_)
    · have c_9 : n ≤ b := (nI_leI (by omega) (by omega)).mp c_9
      exact absurd c_9 (by omega)
    · have c_9 : ¬ (n ≤ b) := fun h => c_9 ((nI_leI (by omega) (by omega)).mpr h)
      refine rAload_n dX4_takeBlow_12 rfl ?_
      refine sGetR dX4_takeBlow_13 fl_X4_9 hd.1 (by decide) rfl ?_
      refine rIload_n dX4_takeBlow_16 rfl ?_
      refine rDup2 dX4_takeBlow_17 rfl rfl ?_
      refine nIald (v := (hh b)) dX4_takeBlow_18 hd.2.1 (by omega) (by omega) (by rw [(h6 b hb).1]) ?_
      refine rIload_n dX4_takeBlow_19 rfl ?_
      refine rIsub dX4_takeBlow_20 ?_
      refine nIast dX4_takeBlow_21 hd.2.1 (by omega) (by omega) ?_
      exact sVret dX4_takeBlow_22 rfl (Nat.le_of_ble_eq_true rfl) (Nat.le_of_ble_eq_true rfl) ⟨rfl, rfl⟩
set_option maxRecDepth 100000 in
set_option maxHeartbeats 4000000 in
theorem c_X4_living {G : gG} {V : wV} {lo : Nat → Int64} {d n t : Nat} {hh g : Nat → Int32} (hd : sideAt V d) {s : sgT} (h : sideIs s d n hh g t) : CSp G V mX4_living cX4_living (rmD 1 0 0) [.ref (ad V d)] s lo (fun v => v = nI (livN hh n)) (fun _ => False) := by
  refine CSp.of (L := [some (.ref (ad V d)), none, none]) rfl (by decide +kernel) rfl (Nat.le_of_ble_eq_true rfl) rfl ?_
  obtain ⟨h1, h2, ⟨tc, h3, h4, h5⟩, h6⟩ := id h
  refine rIconst (v := (nI (0))) dX4_living_0 (by decide) ?_
  refine rIstore_n dX4_living_1 (by decide) ?_
  refine rIconst (v := (nI (0))) dX4_living_2 (by decide) ?_
  refine rIstore_n dX4_living_3 (by decide) ?_
  refine loopW (σ := Unit) (n) (fun i _ => [some (.ref (ad V d)), some (.int (nI (livN hh i))), some (.int (nI i))]) (fun i _ => s) (fun i _ => True) (0) () (by omega) trivial (fun i _ hi hinv ih => ?_)
  refine rIload_n dX4_living_4 rfl ?_
  refine rAload_n dX4_living_5 rfl ?_
  refine sGetI (x := (nI (n))) dX4_living_6 fl_X4_30 hd.1 (by decide) rfl (by rw [h2]) ?_
  refine r_icmp_ge (tgt := 30) dX4_living_9 (by decide) (fun c_9 => ?_) (fun c_9 => ?_)
  · have c_9 : n ≤ i := (nI_leI (by omega) (by omega)).mp c_9
    refine rIload_n dX4_living_30 rfl ?_
    have e : i = n := by omega
    subst e
    exact sIret dX4_living_31 rfl rfl (Nat.le_of_ble_eq_true rfl) (Nat.le_of_ble_eq_true rfl) ⟨_, rfl, rfl, rfl⟩
  · have c_9 : ¬ (n ≤ i) := fun h => c_9 ((nI_leI (by omega) (by omega)).mpr h)
    have hv : livN hh (i + 1) = livN hh i + if hh i ≤ 0 then 0 else 1 := rfl
    refine rAload_n dX4_living_12 rfl ?_
    refine sGetR dX4_living_13 fl_X4_9 hd.1 (by decide) rfl ?_
    refine rIload_n dX4_living_16 rfl ?_
    refine nIald (v := (hh i)) dX4_living_17 hd.2.1 (by omega) (by omega) (by rw [(h6 i (by omega)).1]) ?_
    refine r_if_le (tgt := 24) dX4_living_18 (by decide) (fun c_18 => ?_) (fun c_18 => ?_)
    · refine rIinc (v := (nI (i + 1))) dX4_living_24 rfl (by first | exact nI_add _ _ | rfl) (by decide) ?_
      refine rGoto (tgt := 4) dX4_living_27 (by decide) ?_
      rw [if_pos c_18, Nat.add_zero] at hv
      have hz := ih (by omega) () trivial
      rw [hv] at hz
      exact hz
    · refine rIinc (v := (nI (livN hh i + 1))) dX4_living_21 rfl (by first | exact nI_add _ _ | rfl) (by decide) ?_
      refine rIinc (v := (nI (i + 1))) dX4_living_24 rfl (by first | exact nI_add _ _ | rfl) (by decide) ?_
      refine rGoto (tgt := 4) dX4_living_27 (by decide) ?_
      rw [if_neg c_18] at hv
      have hz := ih (by omega) () trivial
      rw [hv] at hz
      exact hz
set_option maxRecDepth 100000 in
set_option maxHeartbeats 4000000 in
theorem c_X4_firstLiving {G : gG} {V : wV} {lo : Nat → Int64} {d n t : Nat} {hh g : Nat → Int32} (hd : sideAt V d) {s : sgT} (h : sideIs s d n hh g t) : CSp G V mX4_firstLiving cX4_firstLiving (rmD 1 0 0) [.ref (ad V d)] s lo (fun v => v = shI (flN hh n 0)) (fun _ => False) := by
  refine CSp.of (L := [some (.ref (ad V d)), none]) rfl (by decide +kernel) rfl (Nat.le_of_ble_eq_true rfl) rfl ?_
  obtain ⟨h1, h2, ⟨tc, h3, h4, h5⟩, h6⟩ := id h
  refine rIconst (v := (nI (0))) dX4_firstLiving_0 (by decide) ?_
  refine rIstore_n dX4_firstLiving_1 (by decide) ?_
  refine loopW (σ := Unit) (n) (fun i _ => [some (.ref (ad V d)), some (.int (nI i))]) (fun i _ => s) (fun i _ => flN hh (n - i) i = flN hh n 0) (0) () (by omega) rfl (fun i _ hi hinv ih => ?_)
  refine rIload_n dX4_firstLiving_2 rfl ?_
  refine rAload_n dX4_firstLiving_3 rfl ?_
  refine sGetI (x := (nI (n))) dX4_firstLiving_4 fl_X4_30 hd.1 (by decide) rfl (by rw [h2]) ?_
  refine r_icmp_ge (tgt := 27) dX4_firstLiving_7 (by decide) (fun c_7 => ?_) (fun c_7 => ?_)
  · have c_7 : n ≤ i := (nI_leI (by omega) (by omega)).mp c_7
    refine rIconst (v := (-1)) dX4_firstLiving_27 (by decide) ?_
    have e : i = n := by omega
    subst e
    rw [Nat.sub_self] at hinv
    exact sIret dX4_firstLiving_28 rfl rfl (Nat.le_of_ble_eq_true rfl) (Nat.le_of_ble_eq_true rfl) ⟨_, rfl, rfl, (by rw [← hinv]; rfl)⟩
  · have c_7 : ¬ (n ≤ i) := fun h => c_7 ((nI_leI (by omega) (by omega)).mpr h)
    rw [show n - i = (n - (i + 1)) + 1 by omega] at hinv
    simp only [flN] at hinv
    refine rAload_n dX4_firstLiving_10 rfl ?_
    refine sGetR dX4_firstLiving_11 fl_X4_9 hd.1 (by decide) rfl ?_
    refine rIload_n dX4_firstLiving_14 rfl ?_
    refine nIald (v := (hh i)) dX4_firstLiving_15 hd.2.1 (by omega) (by omega) (by rw [(h6 i (by omega)).1]) ?_
    refine r_if_le (tgt := 21) dX4_firstLiving_16 (by decide) (fun c_16 => ?_) (fun c_16 => ?_)
    · rw [if_pos c_16] at hinv
      refine rIinc (v := (nI (i + 1))) dX4_firstLiving_21 rfl (by first | exact nI_add _ _ | rfl) (by decide) ?_
      refine rGoto (tgt := 2) dX4_firstLiving_24 (by decide) ?_
      exact ih (by omega) () hinv
    · rw [if_neg c_16] at hinv
      refine rIload_n dX4_firstLiving_19 rfl ?_
      exact sIret dX4_firstLiving_20 rfl rfl (Nat.le_of_ble_eq_true rfl) (Nat.le_of_ble_eq_true rfl) ⟨_, rfl, rfl, (by rw [← hinv]; rfl)⟩
set_option maxRecDepth 100000 in
set_option maxHeartbeats 4000000 in
theorem c_X4_takeTurn {G : gG} {V : wV} {lo : Nat → Int64} {d n t : Nat} {hh g : Nat → Int32} (hd : sideAt V d) {s : sgT} (h : sideIs s d n hh g t) : CSi G V mX4_takeTurn cX4_takeTurn (rmD 1 0 0) [.ref (ad V d)] s lo (fun v s' => v = shI (ttN hh n t n 0) ∧ (∃ t', sideIs s' d n hh g t' ∧ ∀ a, ttN hh n t n 0 = some a → t' = (a + 1) % n) ∧ ∀ b, b ≠ d → s' b = s b) (fun _ => False) := by
  refine CSi.of (L := [some (.ref (ad V d)), none, none]) rfl (by decide +kernel) rfl (Nat.le_of_ble_eq_true rfl) rfl ?_
  obtain ⟨h1, h2, ⟨tc, h3, h4, h5⟩, h6⟩ := id h
  refine rIconst (v := (nI (0))) dX4_takeTurn_0 (by decide) ?_
  refine rIstore_n dX4_takeTurn_1 (by decide) ?_
  refine loopW (σ := Unit) (n) (fun i _ => [some (.ref (ad V d)), some (.int (nI i)), none]) (fun i _ => s) (fun i _ => ttN hh n tc (n - i) i = ttN hh n t n 0) (0) () (by omega) (by
      rcases Nat.eq_zero_or_pos n with q | q
      · subst q
        rfl
      · exact ttN_mod (by rw [h5 q, ← h5 q, Nat.mod_mod]) _ _) (fun i _ hi hinv ih => ?_)
  refine rIload_n dX4_takeTurn_2 rfl ?_
  refine rAload_n dX4_takeTurn_3 rfl ?_
  refine sGetI (x := (nI (n))) dX4_takeTurn_4 fl_X4_30 hd.1 (by decide) rfl (by rw [h2]) ?_
  refine r_icmp_ge (tgt := 46) dX4_takeTurn_7 (by decide) (fun c_7 => ?_) (fun c_7 => ?_)
  · have c_7 : n ≤ i := (nI_leI (by omega) (by omega)).mp c_7
    refine rIconst (v := (-1)) dX4_takeTurn_46 (by decide) ?_
    have e : i = n := by omega
    subst e
    rw [Nat.sub_self] at hinv
    have hn : ttN hh i t i 0 = none := hinv ▸ rfl
    exact sIret dX4_takeTurn_47 rfl rfl (Nat.le_of_ble_eq_true rfl) (Nat.le_of_ble_eq_true rfl) ⟨_, rfl, ⟨by rw [hn]; rfl, ⟨t, h, fun a ha => by rw [hn] at ha; cases ha⟩, fun _ _ => rfl⟩⟩
  · have c_7 : ¬ (n ≤ i) := fun h => c_7 ((nI_leI (by omega) (by omega)).mpr h)
    have hml := Nat.mod_lt (tc + i) (show 0 < n by omega)
    rw [show n - i = (n - (i + 1)) + 1 by omega] at hinv
    simp only [ttN] at hinv
    refine rAload_n dX4_takeTurn_10 rfl ?_
    refine sGetI (x := (nI (tc))) dX4_takeTurn_11 fl_X4_31 hd.1 (by decide) rfl (by rw [h4]) ?_
    refine rIload_n dX4_takeTurn_14 rfl ?_
    refine nIadd dX4_takeTurn_15 ?_
    refine rAload_n dX4_takeTurn_16 rfl ?_
    refine sGetI (x := (nI (n))) dX4_takeTurn_17 fl_X4_30 hd.1 (by decide) rfl (by rw [h2]) ?_
    refine nIrem dX4_takeTurn_20 (by omega) (by omega) (by omega) ?_
    refine rIstore_n dX4_takeTurn_21 (by decide) ?_
    refine rAload_n dX4_takeTurn_22 rfl ?_
    refine sGetR dX4_takeTurn_23 fl_X4_9 hd.1 (by decide) rfl ?_
    refine rIload_n dX4_takeTurn_26 rfl ?_
    refine nIald (v := (hh ((tc + i) % n))) dX4_takeTurn_27 hd.2.1 (by omega) (by omega) (by rw [(h6 _ hml).1]) ?_
    refine r_if_le (tgt := 40) dX4_takeTurn_28 (by decide) (fun c_28 => ?_) (fun c_28 => ?_)
    · rw [if_pos c_28] at hinv
      refine rIinc (v := (nI (i + 1))) dX4_takeTurn_40 rfl (by first | exact nI_add _ _ | rfl) (by decide) ?_
      refine rGoto (tgt := 2) dX4_takeTurn_43 (by decide) ?_
      refine rForget (L := [some (.ref (ad V d)), some (.int (nI (i + 1))), some (.int (nI ((tc + i) % n)))]) (L' := [some (.ref (ad V d)), some (.int (nI (i + 1))), none]) (by exact ⟨rfl, ⟨rfl, trivial⟩⟩) ?_
      exact ih (by omega) () hinv
    · rw [if_neg c_28] at hinv
      refine rAload_n dX4_takeTurn_31 rfl ?_
      refine rIload_n dX4_takeTurn_32 rfl ?_
      refine rIconst (v := (nI (1))) dX4_takeTurn_33 (by decide) ?_
      refine nIadd dX4_takeTurn_34 ?_
      refine sPutI dX4_takeTurn_35 fl_X4_31 ft_X4 rfl hd.1 (by decide) rfl rfl rfl ?_
      refine rIload_n dX4_takeTurn_38 rfl ?_
      exact sIret dX4_takeTurn_39 rfl rfl (Nat.le_of_ble_eq_true rfl) (Nat.le_of_ble_eq_true rfl) ⟨_, rfl, ⟨by rw [← hinv]; rfl, ⟨((tc + i) % n + 1) % n, ⟨h1, by rw [sw_i (by decide)]; exact h2, ⟨(tc + i) % n + 1, by omega, sw_s, fun _ => rfl⟩, fun j hj => by rw [sw_a (by omega), sw_a (by omega)]; exact h6 j hj⟩, fun a ha => by rw [← hinv] at ha; cases ha; rfl⟩, fun b hb => sw_a hb⟩⟩
set_option maxRecDepth 100000 in
set_option maxHeartbeats 4000000 in
theorem c_X0_muster {G : gG} {V : wV} {lo : Nat → Int64} {B r0 r1 : Nat} {l0 l1 : List Nat} (hB : batAt V B) (hr0 : rowAt V r0 5) (hr1 : rowAt V r1 5) (h50 : l0.length ≤ 5) (h51 : l1.length ≤ 5) (hx0 : r0 + 3 ≤ B ∨ B + 9 ≤ r0) (hx1 : r1 + 3 ≤ B ∨ B + 9 ≤ r1) {s : sgT} (h0 : rowIs s r0 l0) (h1 : rowIs s r1 l1) (ho0 : okR l0) (ho1 : okR l1) : CSv G V mX0_muster cX0_muster (rmD 4 0 0) [.ref (ad V B), .ref (ad V r0), .ref (ad V r1)] s lo (fun s' => sideIs s' (B + 1) l0.length (z0F l0 l1).1 (gF l0) 0 ∧ sideIs s' (B + 4) l1.length (z0F l0 l1).2.2.1 (gF l1) 0 ∧ (∀ b, b < B + 1 ∨ B + 7 ≤ b → s' b = s b)) (fun _ => False) := by
  refine CSv.of (L := [some (.ref (ad V B)), some (.ref (ad V r0)), some (.ref (ad V r1))]) rfl (by decide +kernel) rfl (Nat.le_of_ble_eq_true rfl) rfl ?_
  refine rAload_n dX0_muster_0 rfl ?_
  refine sGetR dX0_muster_1 fl_X0_12 hB.1 (by decide) rfl ?_
  refine rAload_n dX0_muster_4 rfl ?_
  refine sCallVv (M' := mX4_muster) (rm' := rmD 3 0 0) (As := [.ref (ad V r0)]) (rest := []) dX0_muster_5 rfl mk_X4_muster mi_X4_muster ll_X0_28 ⟨(Nat.le_of_ble_eq_true rfl), (Nat.le_of_ble_eq_true rfl)⟩ hB.2.1.1 (by decide) rfl rfl (Nat.le_of_ble_eq_true rfl) (Nat.le_of_ble_eq_true rfl) (c_X4_muster hB.2.1 hr0 (by omega) (by omega) h50 (by omega) h0 ho0) rfl (Nat.le_of_ble_eq_true rfl) (fun s1 e1 => ?_)
  obtain ⟨e1, e2⟩ := e1
  have hw1 : rowIs s1 r1 l1 := rowIs_keep h1 (e2 _ (by omega) (by omega) (by omega)) (e2 _ (by omega) (by omega) (by omega)) (e2 _ (by omega) (by omega) (by omega))
  refine rAload_n dX0_muster_8 rfl ?_
  refine sGetR dX0_muster_9 fl_X0_18 hB.1 (by decide) rfl ?_
  refine rAload_n dX0_muster_12 rfl ?_
  refine sCallVv (M' := mX4_muster) (rm' := rmD 3 0 0) (As := [.ref (ad V r1)]) (rest := []) dX0_muster_13 rfl mk_X4_muster mi_X4_muster ll_X0_28 ⟨(Nat.le_of_ble_eq_true rfl), (Nat.le_of_ble_eq_true rfl)⟩ hB.2.2.1.1 (by decide) rfl rfl (Nat.le_of_ble_eq_true rfl) (Nat.le_of_ble_eq_true rfl) (c_X4_muster hB.2.2.1 hr1 (by omega) (by omega) h51 (by omega) hw1 ho1) rfl (Nat.le_of_ble_eq_true rfl) (fun s2 e3 => ?_)
  obtain ⟨e3, e4⟩ := e3
  exact sVret dX0_muster_16 rfl (Nat.le_of_ble_eq_true rfl) (Nat.le_of_ble_eq_true rfl) ⟨rfl, ⟨sideIs_keep e1 (e4 _ (by omega) (by omega) (by omega)) (e4 _ (by omega) (by omega) (by omega)) (e4 _ (by omega) (by omega) (by omega)), e3, fun b hb => by rw [e4 b (by omega) (by omega) (by omega), e2 b (by omega) (by omega) (by omega)]⟩⟩
set_option maxRecDepth 100000 in
set_option maxHeartbeats 4000000 in
theorem c_X0_result {G : gG} {V : wV} {lo : Nat → Int64} {B n0 n1 t0 t1 : Nat} {h0 h1 g0 g1 : Nat → Int32} (hB : batAt V B) {s : sgT} (hs0 : sideIs s (B + 1) n0 h0 g0 t0) (hs1 : sideIs s (B + 4) n1 h1 g1 t1) : CSp G V mX0_result cX0_result (rmD 2 0 0) [.ref (ad V B)] s lo (fun v => v = nI (livN h0 n0) - nI (livN h1 n1)) (fun _ => False) := by
  refine CSp.of (L := [some (.ref (ad V B))]) rfl (by decide +kernel) rfl (Nat.le_of_ble_eq_true rfl) rfl ?_
  refine rAload_n dX0_result_0 rfl ?_
  refine sGetR dX0_result_1 fl_X0_12 hB.1 (by decide) rfl ?_
  refine sCallVp (M' := mX4_living) (rm' := rmD 1 0 0) (As := []) (rest := []) dX0_result_4 rfl mk_X4_living mi_X4_living ll_X0_50 ⟨(Nat.le_of_ble_eq_true rfl), (Nat.le_of_ble_eq_true rfl)⟩ hB.2.1.1 (by decide) rfl rfl (Nat.le_of_ble_eq_true rfl) (Nat.le_of_ble_eq_true rfl) (c_X4_living hB.2.1 hs0) rfl (Nat.le_of_ble_eq_true rfl) (fun v e1 => ?_)
  refine tTop (w := (nI (livN h0 n0))) e1 ?_
  refine rAload_n dX0_result_7 rfl ?_
  refine sGetR dX0_result_8 fl_X0_18 hB.1 (by decide) rfl ?_
  refine sCallVp (M' := mX4_living) (rm' := rmD 1 0 0) (As := []) (rest := [.int (nI (livN h0 n0))]) dX0_result_11 rfl mk_X4_living mi_X4_living ll_X0_50 ⟨(Nat.le_of_ble_eq_true rfl), (Nat.le_of_ble_eq_true rfl)⟩ hB.2.2.1.1 (by decide) rfl rfl (Nat.le_of_ble_eq_true rfl) (Nat.le_of_ble_eq_true rfl) (c_X4_living hB.2.2.1 hs1) rfl (Nat.le_of_ble_eq_true rfl) (fun v e2 => ?_)
  refine tTop (w := (nI (livN h1 n1))) e2 ?_
  refine rIsub dX0_result_14 ?_
  exact sIret dX0_result_15 rfl rfl (Nat.le_of_ble_eq_true rfl) (Nat.le_of_ble_eq_true rfl) ⟨_, rfl, rfl, rfl⟩
set_option maxRecDepth 100000 in
set_option maxHeartbeats 4000000 in
theorem c_X0_fightOut {G : gG} {V : wV} {lo : Nat → Int64} {B n0 n1 t0 t1 : Nat} {h0 h1 g0 g1 : Nat → Int32} (hB : batAt V B) {s : sgT} (hs0 : sideIs s (B + 1) n0 h0 g0 t0) (hs1 : sideIs s (B + 4) n1 h1 g1 t1) : CSv G V mX0_fightOut cX0_fightOut (rmD 2 0 0) [.ref (ad V B)] s lo (fun s' => (∃ t', sideIs s' (B + 1) n0 (fightN n0 n1 g0 g1 60 0 (h0, t0, h1, t1)).1 g0 t') ∧ (∃ t', sideIs s' (B + 4) n1 (fightN n0 n1 g0 g1 60 0 (h0, t0, h1, t1)).2.2.1 g1 t') ∧ logIs s' B (recF n0 n1 g0 g1 60 0 (h0, t0, h1, t1)) ∧ (∀ b, b < B ∨ B + 9 ≤ b → s' b = s b)) (fun _ => False) := by
  refine CSv.of (L := [some (.ref (ad V B)), none, none, none, none, none]) rfl (by decide +kernel) rfl (Nat.le_of_ble_eq_true rfl) rfl ?_
  refine rAload_n dX0_fightOut_0 rfl ?_
  refine rIconst (v := (nI (0))) dX0_fightOut_1 (by decide) ?_
  refine sPutI dX0_fightOut_2 fl_X0_32 ft_X0 rfl hB.1 (by decide) rfl rfl rfl ?_
  refine rIconst (v := (nI (0))) dX0_fightOut_5 (by decide) ?_
  refine rIstore_n dX0_fightOut_6 (by decide) ?_
  obtain ⟨R, hR⟩ : ∃ R, R = recF n0 n1 g0 g1 60 0 (h0, t0, h1, t1) := ⟨_, rfl⟩
  obtain ⟨Z, hZ⟩ : ∃ Z, Z = fightN n0 n1 g0 g1 60 0 (h0, t0, h1, t1) := ⟨_, rfl⟩
  rw [← hR, ← hZ]
  refine loopW (σ := sgT × zT × List (Nat × Int32)) (60) (fun i x => [some (.ref (ad V B)), some (.int (nI i)), none, none, none, none]) (fun i x => x.1) (fun i x => fInv n0 n1 g0 g1 R Z B s i x.1 x.2.1.1 x.2.1.2.1 x.2.1.2.2.1 x.2.1.2.2.2 x.2.2) (0) ((sw s B 4 (nI (0))), (h0, t0, h1, t1), []) (by omega) (show fInv n0 n1 g0 g1 R Z B s 0 (sw s B 4 (nI (0))) h0 t0 h1 t1 [] from ⟨sideIs_keep hs0 (sw_a (by omega)) (sw_a (by omega)) (sw_a (by omega)), sideIs_keep hs1 (sw_a (by omega)) (sw_a (by omega)) (sw_a (by omega)), sw_s, fun j hj => absurd hj (by omega), fun b hb => sw_a (by omega), rfl, hR, hZ.symm⟩) (fun i x hi hinv ih => ?_)
  obtain ⟨y, ⟨a0, u0, a1, u1⟩, pre⟩ := x
  have hinv : fInv n0 n1 g0 g1 R Z B s i y a0 u0 a1 u1 pre := hinv
  obtain ⟨v1, v2, v3, v4, v5, v6, v7, v8⟩ := hinv
  refine rIload_n dX0_fightOut_7 rfl ?_
  refine rBipush (v := (nI (60))) dX0_fightOut_8 (by decide) ?_
  refine r_icmp_ge (tgt := 124) dX0_fightOut_10 (by decide) (fun c_10 => ?_) (fun c_10 => ?_)
  · have c_10 : 60 ≤ i := (nI_leI (by omega) (by omega)).mp c_10
    have e : i = 60 := by omega
    subst e
    have hl : R.length = 60 := by rw [v7]; simp [recF, v6]
    have hz : (a0, u0, a1, u1) = Z := v8
    rw [← hz]
    exact sVret dX0_fightOut_124 rfl (Nat.le_of_ble_eq_true rfl) (Nat.le_of_ble_eq_true rfl) ⟨rfl, ⟨⟨u0, v1⟩, ⟨u1, v2⟩, ⟨by rw [hl]; exact v3, fun j hj => v4 j (by omega), by omega⟩, v5⟩⟩
  · have c_10 : ¬ (60 ≤ i) := fun h => c_10 ((nI_leI (by omega) (by omega)).mpr h)
    rw [show 60 - i = (60 - (i + 1)) + 1 by omega] at v7 v8
    simp only [recF, fightN] at v7 v8
    refine rIload_n dX0_fightOut_13 rfl ?_
    refine rIconst (v := (nI (2))) dX0_fightOut_14 (by decide) ?_
    refine nIrem dX0_fightOut_15 (by omega) (by decide) (by decide) ?_
    refine r_if_ne (tgt := 26) dX0_fightOut_16 (by decide) (fun c_16 => ?_) (fun c_16 => ?_)
    · have c_16 : ¬ ((i % 2) = 0) := fun h => c_16 ((nz_eq (by omega)).mpr h)
      refine rAload_n dX0_fightOut_26 rfl ?_
      refine sGetR dX0_fightOut_27 fl_X0_18 hB.1 (by decide) rfl ?_
      refine rAstore_n dX0_fightOut_30 (by decide) ?_
      refine rIload_n dX0_fightOut_31 rfl ?_
      refine rIconst (v := (nI (2))) dX0_fightOut_32 (by decide) ?_
      refine nIrem dX0_fightOut_33 (by omega) (by decide) (by decide) ?_
      refine r_if_ne (tgt := 44) dX0_fightOut_34 (by decide) (fun c_34 => ?_) (fun c_34 => ?_)
      · have c_34 : ¬ ((i % 2) = 0) := fun h => c_34 ((nz_eq (by omega)).mpr h)
        refine rAload_n dX0_fightOut_44 rfl ?_
        refine sGetR dX0_fightOut_45 fl_X0_12 hB.1 (by decide) rfl ?_
        refine rAstore_n dX0_fightOut_48 (by decide) ?_
        refine rAload_n dX0_fightOut_49 rfl ?_
        refine sCallVi (M' := mX4_takeTurn) (rm' := rmD 1 0 0) (As := []) (rest := []) dX0_fightOut_50 rfl mk_X4_takeTurn mi_X4_takeTurn ll_X0_36 ⟨(Nat.le_of_ble_eq_true rfl), (Nat.le_of_ble_eq_true rfl)⟩ hB.2.2.1.1 (by decide) rfl rfl (Nat.le_of_ble_eq_true rfl) (Nat.le_of_ble_eq_true rfl) (c_X4_takeTurn hB.2.2.1 v2) rfl (Nat.le_of_ble_eq_true rfl) (fun v s1 e1 => ?_)
        obtain ⟨rfl, ⟨t2, e2, e3⟩, e4⟩ := e1
        have hk : sideIs s1 (B + 1) n0 a0 g0 u0 := sideIs_keep v1 (e4 _ (by omega)) (e4 _ (by omega)) (e4 _ (by omega))
        have f3 : s1 B 4 = nI i := by rw [e4 _ (by omega)]; exact v3
        have f4 : ∀ j, j < i → s1 (B + 7) j = nI (R.getD j (0, 0)).1 ∧ s1 (B + 8) j = (R.getD j (0, 0)).2 := fun j hj => by rw [e4 _ (by omega), e4 _ (by omega)]; exact v4 j hj
        have f5 : ∀ b, b < B ∨ B + 9 ≤ b → s1 b = s b := fun b hb => by rw [e4 b (by omega)]; exact v5 b hb
        cases ht : ttN a1 n1 u1 n1 0 with
        | none =>
          refine rIstore dX0_fightOut_53 (by decide) ?_
          refine rAload_n dX0_fightOut_55 rfl ?_
          refine sCallVp (M' := mX4_firstLiving) (rm' := rmD 1 0 0) (As := []) (rest := []) dX0_fightOut_56 rfl mk_X4_firstLiving mi_X4_firstLiving ll_X0_40 ⟨(Nat.le_of_ble_eq_true rfl), (Nat.le_of_ble_eq_true rfl)⟩ hB.2.1.1 (by decide) rfl rfl (Nat.le_of_ble_eq_true rfl) (Nat.le_of_ble_eq_true rfl) (c_X4_firstLiving hB.2.1 hk) rfl (Nat.le_of_ble_eq_true rfl) (fun vf ef => ?_)
          refine rIstore dX0_fightOut_59 (by decide) ?_
          refine rIload dX0_fightOut_61 rfl ?_
          refine rIconst (v := (-1)) dX0_fightOut_63 (by decide) ?_
          refine r_icmp_eq (tgt := 73) dX0_fightOut_64 (by decide) (fun c_64 => ?_) (fun c_64 => ?_)
          · have hbl : blowS n0 n1 g0 g1 i (a0, u0, a1, u1) = none := by
              unfold blowS
              rw [if_neg (show ¬ i % 2 = 0 from c_16)]
              simp only [ht]
            rw [hbl] at v7 v8
            have hl : R.length = i := by rw [v7]; simp [v6]
            have hz : (a0, u0, a1, u1) = Z := v8
            rw [← hz]
            exact sVret dX0_fightOut_73 rfl (Nat.le_of_ble_eq_true rfl) (Nat.le_of_ble_eq_true rfl) ⟨rfl, ⟨⟨u0, hk⟩, ⟨t2, e2⟩, ⟨by rw [hl]; exact f3, fun j hj => f4 j (by omega), by omega⟩, f5⟩⟩
          · exact absurd rfl c_64
        | some a =>
          have hn0 : 0 < n1 := by
            rcases Nat.eq_zero_or_pos n1 with q | q
            · subst q
              cases ht
            · exact q
          have hal := (ttN_some ht).1 hn0
          have hn5 := v2.1
          have hm5 := hk.1
          refine rIstore dX0_fightOut_53 (by decide) ?_
          refine rAload_n dX0_fightOut_55 rfl ?_
          refine sCallVp (M' := mX4_firstLiving) (rm' := rmD 1 0 0) (As := []) (rest := []) dX0_fightOut_56 rfl mk_X4_firstLiving mi_X4_firstLiving ll_X0_40 ⟨(Nat.le_of_ble_eq_true rfl), (Nat.le_of_ble_eq_true rfl)⟩ hB.2.1.1 (by decide) rfl rfl (Nat.le_of_ble_eq_true rfl) (Nat.le_of_ble_eq_true rfl) (c_X4_firstLiving hB.2.1 hk) rfl (Nat.le_of_ble_eq_true rfl) (fun vf ef => ?_)
          subst ef
          cases hf : flN a0 n0 0 with
          | none =>
            refine rIstore dX0_fightOut_59 (by decide) ?_
            refine rIload dX0_fightOut_61 rfl ?_
            refine rIconst (v := (-1)) dX0_fightOut_63 (by decide) ?_
            refine r_icmp_eq (tgt := 73) dX0_fightOut_64 (by decide) (fun c_64 => ?_) (fun c_64 => ?_)
            · exact absurd c_64 (nI_m1 (by omega))
            · refine rIload dX0_fightOut_67 rfl ?_
              refine rIconst (v := (-1)) dX0_fightOut_69 (by decide) ?_
              refine r_icmp_ne (tgt := 74) dX0_fightOut_70 (by decide) (fun c_70 => ?_) (fun c_70 => ?_)
              · exact absurd rfl c_70
              · have hbl : blowS n0 n1 g0 g1 i (a0, u0, a1, u1) = none := by
                  unfold blowS
                  rw [if_neg (show ¬ i % 2 = 0 from c_16)]
                  simp only [ht, hf]
                rw [hbl] at v7 v8
                have hl : R.length = i := by rw [v7]; simp [v6]
                have hz : (a0, u0, a1, u1) = Z := v8
                rw [← hz]
                exact sVret dX0_fightOut_73 rfl (Nat.le_of_ble_eq_true rfl) (Nat.le_of_ble_eq_true rfl) ⟨rfl, ⟨⟨u0, hk⟩, ⟨t2, e2⟩, ⟨by rw [hl]; exact f3, fun j hj => f4 j (by omega), by omega⟩, f5⟩⟩
          | some b =>
            have hbl0 := flN_some hf
            refine rIstore dX0_fightOut_59 (by decide) ?_
            refine rIload dX0_fightOut_61 rfl ?_
            refine rIconst (v := (-1)) dX0_fightOut_63 (by decide) ?_
            refine r_icmp_eq (tgt := 73) dX0_fightOut_64 (by decide) (fun c_64 => ?_) (fun c_64 => ?_)
            · exact absurd c_64 (nI_m1 (by omega))
            · refine rIload dX0_fightOut_67 rfl ?_
              refine rIconst (v := (-1)) dX0_fightOut_69 (by decide) ?_
              refine r_icmp_ne (tgt := 74) dX0_fightOut_70 (by decide) (fun c_70 => ?_) (fun c_70 => ?_)
              · have hbl : blowS n0 n1 g0 g1 i (a0, u0, a1, u1) = some ((upd a0 b (a0 b - g1 a), u0, a1, (a + 1) % n1), b, g1 a) := by
                  unfold blowS
                  rw [if_neg (show ¬ i % 2 = 0 from c_16)]
                  simp only [ht, hf]
                rw [hbl] at v7 v8
                dsimp only at v7 v8
                have hg : R.getD i (0, 0) = (b, g1 a) := by rw [v7]; exact getD_app v6 rfl
                have ht2 := e3 a ht
                subst ht2
                refine rAload_n dX0_fightOut_74 rfl ?_
                refine rIload dX0_fightOut_75 rfl ?_
                refine rAload_n dX0_fightOut_77 rfl ?_
                refine sGetR dX0_fightOut_78 fl_X0_43 hB.2.2.1.1 (by decide) rfl ?_
                refine rIload dX0_fightOut_81 rfl ?_
                refine nIald (v := (g1 a)) dX0_fightOut_83 hB.2.2.1.2.2 (by omega) (by omega) (by rw [(e2.2.2.2 a (by omega)).2]) ?_
                refine sCallVv (M' := mX4_takeBlow) (rm' := rmD 1 0 0) (As := [.int (nI b), .int (g1 a)]) (rest := []) dX0_fightOut_84 rfl mk_X4_takeBlow mi_X4_takeBlow ll_X0_46 ⟨(Nat.le_of_ble_eq_true rfl), (Nat.le_of_ble_eq_true rfl)⟩ hB.2.1.1 (by decide) rfl rfl (Nat.le_of_ble_eq_true rfl) (Nat.le_of_ble_eq_true rfl) (c_X4_takeBlow hB.2.1 hk (by omega)) rfl (Nat.le_of_ble_eq_true rfl) (fun s2 ek => ?_)
                subst ek
                refine rAload_n dX0_fightOut_87 rfl ?_
                refine sGetR dX0_fightOut_88 fl_X0_21 hB.1 (by decide) rfl ?_
                refine rIload_n dX0_fightOut_91 rfl ?_
                refine rIload dX0_fightOut_92 rfl ?_
                refine nIast dX0_fightOut_94 hB.2.2.2.1 (by omega) (by omega) ?_
                refine rAload_n dX0_fightOut_95 rfl ?_
                refine sGetR dX0_fightOut_96 fl_X0_25 hB.1 (by decide) rfl ?_
                refine rIload_n dX0_fightOut_99 rfl ?_
                refine rAload_n dX0_fightOut_100 rfl ?_
                refine sGetR dX0_fightOut_101 fl_X0_43 hB.2.2.1.1 (by decide) rfl ?_
                refine rIload dX0_fightOut_104 rfl ?_
                refine nIald (v := (g1 a)) dX0_fightOut_106 hB.2.2.1.2.2 (by omega) (by omega) (by rw [sw_a (by omega), sw_a (by omega), (e2.2.2.2 a (by omega)).2]) ?_
                refine nIast dX0_fightOut_107 hB.2.2.2.2 (by omega) (by omega) ?_
                refine rAload_n dX0_fightOut_108 rfl ?_
                refine rDup dX0_fightOut_109 rfl ?_
                refine sGetI (x := (nI (i))) dX0_fightOut_110 fl_X0_32 hB.1 (by decide) rfl (by rw [sw_a (by omega), sw_a (by omega), sw_a (by omega), f3]) ?_
                refine rIconst (v := (nI (1))) dX0_fightOut_113 (by decide) ?_
                refine nIadd dX0_fightOut_114 ?_
                refine sPutI dX0_fightOut_115 fl_X0_32 ft_X0 rfl hB.1 (by decide) rfl rfl rfl ?_
                refine rIinc (v := (nI (i + 1))) dX0_fightOut_118 rfl (by first | exact nI_add _ _ | rfl) (by decide) ?_
                refine rGoto (tgt := 7) dX0_fightOut_121 (by decide) ?_
                refine rForget (L := [some (.ref (ad V B)), some (.int (nI (i + 1))), some (.ref (ad V (B + 4))), some (.ref (ad V (B + 1))), some (.int (nI a)), some (.int (nI b))]) (L' := [some (.ref (ad V B)), some (.int (nI (i + 1))), none, none, none, none]) (by exact ⟨rfl, ⟨rfl, trivial⟩⟩) ?_
                exact ih (by omega) ((sw (sw (sw (sw s1 (B + 1 + 1) b (a0 b - g1 a)) (B + 7) i (nI (b))) (B + 8) i (g1 a)) B 4 (nI (i + 1))), (upd a0 b (a0 b - g1 a), u0, a1, (a + 1) % n1), pre ++ [(b, g1 a)]) (show fInv n0 n1 g0 g1 R Z B s (i + 1) (sw (sw (sw (sw s1 (B + 1 + 1) b (a0 b - g1 a)) (B + 7) i (nI (b))) (B + 8) i (g1 a)) B 4 (nI (i + 1))) (upd a0 b (a0 b - g1 a)) u0 a1 ((a + 1) % n1) (pre ++ [(b, g1 a)]) from ⟨⟨hk.1, by simp (disch := omega) only [sw_a, sw_s, sw_i]; exact hk.2.1, (by obtain ⟨tc, q1, q2, q3⟩ := hk.2.2.1; exact ⟨tc, q1, by simp (disch := omega) only [sw_a, sw_s, sw_i]; exact q2, q3⟩), fun j hj => (by
                        have hj2 := hk.2.2.2 j hj
                        refine ⟨?_, by simp (disch := omega) only [sw_a, sw_s, sw_i]; exact hj2.2⟩
                        unfold upd
                        by_cases e : j = b
                        · subst e
                          simp (disch := omega) only [sw_a, sw_s, sw_i]
                          exact (if_pos trivial).symm
                        · simp (disch := omega) only [sw_a, sw_s, sw_i]
                          rw [if_neg e]
                          exact hj2.1)⟩, ⟨e2.1, by simp (disch := omega) only [sw_a, sw_s, sw_i]; exact e2.2.1, (by obtain ⟨tc, q1, q2, q3⟩ := e2.2.2.1; exact ⟨tc, q1, by simp (disch := omega) only [sw_a, sw_s, sw_i]; exact q2, q3⟩), fun j hj => by simp (disch := omega) only [sw_a, sw_s, sw_i]; exact e2.2.2.2 j hj⟩, by simp (disch := omega) only [sw_a, sw_s, sw_i], fun j hj => (by
                      rcases Nat.lt_or_ge j i with q | q
                      · have f := f4 j q
                        simp (disch := omega) only [sw_a, sw_s, sw_i]
                        exact f
                      · have e : j = i := by omega
                        subst e
                        simp (disch := omega) only [sw_a, sw_s, sw_i]
                        rw [hg]
                        exact ⟨rfl, rfl⟩), fun b hb => (by simp (disch := omega) only [sw_a, sw_s, sw_i]; exact f5 b hb), by simp [v6], by rw [v7]; simp, v8⟩)
              · exact absurd c_70 (nI_m1 (by omega))
      · have c_34 : (i % 2) = 0 := (nz_eq (by omega)).mp c_34
        omega
    · have c_16 : (i % 2) = 0 := (nz_eq (by omega)).mp c_16
      refine rAload_n dX0_fightOut_19 rfl ?_
      refine sGetR dX0_fightOut_20 fl_X0_12 hB.1 (by decide) rfl ?_
      refine rGoto (tgt := 30) dX0_fightOut_23 (by decide) ?_
      refine rAstore_n dX0_fightOut_30 (by decide) ?_
      refine rIload_n dX0_fightOut_31 rfl ?_
      refine rIconst (v := (nI (2))) dX0_fightOut_32 (by decide) ?_
      refine nIrem dX0_fightOut_33 (by omega) (by decide) (by decide) ?_
      refine r_if_ne (tgt := 44) dX0_fightOut_34 (by decide) (fun c_34 => ?_) (fun c_34 => ?_)
      · have c_34 : ¬ ((i % 2) = 0) := fun h => c_34 ((nz_eq (by omega)).mpr h)
        omega
      · have c_34 : (i % 2) = 0 := (nz_eq (by omega)).mp c_34
        refine rAload_n dX0_fightOut_37 rfl ?_
        refine sGetR dX0_fightOut_38 fl_X0_18 hB.1 (by decide) rfl ?_
        refine rGoto (tgt := 48) dX0_fightOut_41 (by decide) ?_
        refine rAstore_n dX0_fightOut_48 (by decide) ?_
        refine rAload_n dX0_fightOut_49 rfl ?_
        refine sCallVi (M' := mX4_takeTurn) (rm' := rmD 1 0 0) (As := []) (rest := []) dX0_fightOut_50 rfl mk_X4_takeTurn mi_X4_takeTurn ll_X0_36 ⟨(Nat.le_of_ble_eq_true rfl), (Nat.le_of_ble_eq_true rfl)⟩ hB.2.1.1 (by decide) rfl rfl (Nat.le_of_ble_eq_true rfl) (Nat.le_of_ble_eq_true rfl) (c_X4_takeTurn hB.2.1 v1) rfl (Nat.le_of_ble_eq_true rfl) (fun v s1 e1 => ?_)
        obtain ⟨rfl, ⟨t2, e2, e3⟩, e4⟩ := e1
        have hk : sideIs s1 (B + 4) n1 a1 g1 u1 := sideIs_keep v2 (e4 _ (by omega)) (e4 _ (by omega)) (e4 _ (by omega))
        have f3 : s1 B 4 = nI i := by rw [e4 _ (by omega)]; exact v3
        have f4 : ∀ j, j < i → s1 (B + 7) j = nI (R.getD j (0, 0)).1 ∧ s1 (B + 8) j = (R.getD j (0, 0)).2 := fun j hj => by rw [e4 _ (by omega), e4 _ (by omega)]; exact v4 j hj
        have f5 : ∀ b, b < B ∨ B + 9 ≤ b → s1 b = s b := fun b hb => by rw [e4 b (by omega)]; exact v5 b hb
        cases ht : ttN a0 n0 u0 n0 0 with
        | none =>
          refine rIstore dX0_fightOut_53 (by decide) ?_
          refine rAload_n dX0_fightOut_55 rfl ?_
          refine sCallVp (M' := mX4_firstLiving) (rm' := rmD 1 0 0) (As := []) (rest := []) dX0_fightOut_56 rfl mk_X4_firstLiving mi_X4_firstLiving ll_X0_40 ⟨(Nat.le_of_ble_eq_true rfl), (Nat.le_of_ble_eq_true rfl)⟩ hB.2.2.1.1 (by decide) rfl rfl (Nat.le_of_ble_eq_true rfl) (Nat.le_of_ble_eq_true rfl) (c_X4_firstLiving hB.2.2.1 hk) rfl (Nat.le_of_ble_eq_true rfl) (fun vf ef => ?_)
          refine rIstore dX0_fightOut_59 (by decide) ?_
          refine rIload dX0_fightOut_61 rfl ?_
          refine rIconst (v := (-1)) dX0_fightOut_63 (by decide) ?_
          refine r_icmp_eq (tgt := 73) dX0_fightOut_64 (by decide) (fun c_64 => ?_) (fun c_64 => ?_)
          · have hbl : blowS n0 n1 g0 g1 i (a0, u0, a1, u1) = none := by
              unfold blowS
              rw [if_pos (show i % 2 = 0 from c_16)]
              simp only [ht]
            rw [hbl] at v7 v8
            have hl : R.length = i := by rw [v7]; simp [v6]
            have hz : (a0, u0, a1, u1) = Z := v8
            rw [← hz]
            exact sVret dX0_fightOut_73 rfl (Nat.le_of_ble_eq_true rfl) (Nat.le_of_ble_eq_true rfl) ⟨rfl, ⟨⟨t2, e2⟩, ⟨u1, hk⟩, ⟨by rw [hl]; exact f3, fun j hj => f4 j (by omega), by omega⟩, f5⟩⟩
          · exact absurd rfl c_64
        | some a =>
          have hn0 : 0 < n0 := by
            rcases Nat.eq_zero_or_pos n0 with q | q
            · subst q
              cases ht
            · exact q
          have hal := (ttN_some ht).1 hn0
          have hn5 := v1.1
          have hm5 := hk.1
          refine rIstore dX0_fightOut_53 (by decide) ?_
          refine rAload_n dX0_fightOut_55 rfl ?_
          refine sCallVp (M' := mX4_firstLiving) (rm' := rmD 1 0 0) (As := []) (rest := []) dX0_fightOut_56 rfl mk_X4_firstLiving mi_X4_firstLiving ll_X0_40 ⟨(Nat.le_of_ble_eq_true rfl), (Nat.le_of_ble_eq_true rfl)⟩ hB.2.2.1.1 (by decide) rfl rfl (Nat.le_of_ble_eq_true rfl) (Nat.le_of_ble_eq_true rfl) (c_X4_firstLiving hB.2.2.1 hk) rfl (Nat.le_of_ble_eq_true rfl) (fun vf ef => ?_)
          subst ef
          cases hf : flN a1 n1 0 with
          | none =>
            refine rIstore dX0_fightOut_59 (by decide) ?_
            refine rIload dX0_fightOut_61 rfl ?_
            refine rIconst (v := (-1)) dX0_fightOut_63 (by decide) ?_
            refine r_icmp_eq (tgt := 73) dX0_fightOut_64 (by decide) (fun c_64 => ?_) (fun c_64 => ?_)
            · exact absurd c_64 (nI_m1 (by omega))
            · refine rIload dX0_fightOut_67 rfl ?_
              refine rIconst (v := (-1)) dX0_fightOut_69 (by decide) ?_
              refine r_icmp_ne (tgt := 74) dX0_fightOut_70 (by decide) (fun c_70 => ?_) (fun c_70 => ?_)
              · exact absurd rfl c_70
              · have hbl : blowS n0 n1 g0 g1 i (a0, u0, a1, u1) = none := by
                  unfold blowS
                  rw [if_pos (show i % 2 = 0 from c_16)]
                  simp only [ht, hf]
                rw [hbl] at v7 v8
                have hl : R.length = i := by rw [v7]; simp [v6]
                have hz : (a0, u0, a1, u1) = Z := v8
                rw [← hz]
                exact sVret dX0_fightOut_73 rfl (Nat.le_of_ble_eq_true rfl) (Nat.le_of_ble_eq_true rfl) ⟨rfl, ⟨⟨t2, e2⟩, ⟨u1, hk⟩, ⟨by rw [hl]; exact f3, fun j hj => f4 j (by omega), by omega⟩, f5⟩⟩
          | some b =>
            have hbl0 := flN_some hf
            refine rIstore dX0_fightOut_59 (by decide) ?_
            refine rIload dX0_fightOut_61 rfl ?_
            refine rIconst (v := (-1)) dX0_fightOut_63 (by decide) ?_
            refine r_icmp_eq (tgt := 73) dX0_fightOut_64 (by decide) (fun c_64 => ?_) (fun c_64 => ?_)
            · exact absurd c_64 (nI_m1 (by omega))
            · refine rIload dX0_fightOut_67 rfl ?_
              refine rIconst (v := (-1)) dX0_fightOut_69 (by decide) ?_
              refine r_icmp_ne (tgt := 74) dX0_fightOut_70 (by decide) (fun c_70 => ?_) (fun c_70 => ?_)
              · have hbl : blowS n0 n1 g0 g1 i (a0, u0, a1, u1) = some ((a0, (a + 1) % n0, upd a1 b (a1 b - g0 a), u1), b, g0 a) := by
                  unfold blowS
                  rw [if_pos (show i % 2 = 0 from c_16)]
                  simp only [ht, hf]
                rw [hbl] at v7 v8
                dsimp only at v7 v8
                have hg : R.getD i (0, 0) = (b, g0 a) := by rw [v7]; exact getD_app v6 rfl
                have ht2 := e3 a ht
                subst ht2
                refine rAload_n dX0_fightOut_74 rfl ?_
                refine rIload dX0_fightOut_75 rfl ?_
                refine rAload_n dX0_fightOut_77 rfl ?_
                refine sGetR dX0_fightOut_78 fl_X0_43 hB.2.1.1 (by decide) rfl ?_
                refine rIload dX0_fightOut_81 rfl ?_
                refine nIald (v := (g0 a)) dX0_fightOut_83 hB.2.1.2.2 (by omega) (by omega) (by rw [(e2.2.2.2 a (by omega)).2]) ?_
                refine sCallVv (M' := mX4_takeBlow) (rm' := rmD 1 0 0) (As := [.int (nI b), .int (g0 a)]) (rest := []) dX0_fightOut_84 rfl mk_X4_takeBlow mi_X4_takeBlow ll_X0_46 ⟨(Nat.le_of_ble_eq_true rfl), (Nat.le_of_ble_eq_true rfl)⟩ hB.2.2.1.1 (by decide) rfl rfl (Nat.le_of_ble_eq_true rfl) (Nat.le_of_ble_eq_true rfl) (c_X4_takeBlow hB.2.2.1 hk (by omega)) rfl (Nat.le_of_ble_eq_true rfl) (fun s2 ek => ?_)
                subst ek
                refine rAload_n dX0_fightOut_87 rfl ?_
                refine sGetR dX0_fightOut_88 fl_X0_21 hB.1 (by decide) rfl ?_
                refine rIload_n dX0_fightOut_91 rfl ?_
                refine rIload dX0_fightOut_92 rfl ?_
                refine nIast dX0_fightOut_94 hB.2.2.2.1 (by omega) (by omega) ?_
                refine rAload_n dX0_fightOut_95 rfl ?_
                refine sGetR dX0_fightOut_96 fl_X0_25 hB.1 (by decide) rfl ?_
                refine rIload_n dX0_fightOut_99 rfl ?_
                refine rAload_n dX0_fightOut_100 rfl ?_
                refine sGetR dX0_fightOut_101 fl_X0_43 hB.2.1.1 (by decide) rfl ?_
                refine rIload dX0_fightOut_104 rfl ?_
                refine nIald (v := (g0 a)) dX0_fightOut_106 hB.2.1.2.2 (by omega) (by omega) (by rw [sw_a (by omega), sw_a (by omega), (e2.2.2.2 a (by omega)).2]) ?_
                refine nIast dX0_fightOut_107 hB.2.2.2.2 (by omega) (by omega) ?_
                refine rAload_n dX0_fightOut_108 rfl ?_
                refine rDup dX0_fightOut_109 rfl ?_
                refine sGetI (x := (nI (i))) dX0_fightOut_110 fl_X0_32 hB.1 (by decide) rfl (by rw [sw_a (by omega), sw_a (by omega), sw_a (by omega), f3]) ?_
                refine rIconst (v := (nI (1))) dX0_fightOut_113 (by decide) ?_
                refine nIadd dX0_fightOut_114 ?_
                refine sPutI dX0_fightOut_115 fl_X0_32 ft_X0 rfl hB.1 (by decide) rfl rfl rfl ?_
                refine rIinc (v := (nI (i + 1))) dX0_fightOut_118 rfl (by first | exact nI_add _ _ | rfl) (by decide) ?_
                refine rGoto (tgt := 7) dX0_fightOut_121 (by decide) ?_
                refine rForget (L := [some (.ref (ad V B)), some (.int (nI (i + 1))), some (.ref (ad V (B + 1))), some (.ref (ad V (B + 4))), some (.int (nI a)), some (.int (nI b))]) (L' := [some (.ref (ad V B)), some (.int (nI (i + 1))), none, none, none, none]) (by exact ⟨rfl, ⟨rfl, trivial⟩⟩) ?_
                exact ih (by omega) ((sw (sw (sw (sw s1 (B + 4 + 1) b (a1 b - g0 a)) (B + 7) i (nI (b))) (B + 8) i (g0 a)) B 4 (nI (i + 1))), (a0, (a + 1) % n0, upd a1 b (a1 b - g0 a), u1), pre ++ [(b, g0 a)]) (show fInv n0 n1 g0 g1 R Z B s (i + 1) (sw (sw (sw (sw s1 (B + 4 + 1) b (a1 b - g0 a)) (B + 7) i (nI (b))) (B + 8) i (g0 a)) B 4 (nI (i + 1))) a0 ((a + 1) % n0) (upd a1 b (a1 b - g0 a)) u1 (pre ++ [(b, g0 a)]) from ⟨⟨e2.1, by simp (disch := omega) only [sw_a, sw_s, sw_i]; exact e2.2.1, (by obtain ⟨tc, q1, q2, q3⟩ := e2.2.2.1; exact ⟨tc, q1, by simp (disch := omega) only [sw_a, sw_s, sw_i]; exact q2, q3⟩), fun j hj => by simp (disch := omega) only [sw_a, sw_s, sw_i]; exact e2.2.2.2 j hj⟩, ⟨hk.1, by simp (disch := omega) only [sw_a, sw_s, sw_i]; exact hk.2.1, (by obtain ⟨tc, q1, q2, q3⟩ := hk.2.2.1; exact ⟨tc, q1, by simp (disch := omega) only [sw_a, sw_s, sw_i]; exact q2, q3⟩), fun j hj => (by
                        have hj2 := hk.2.2.2 j hj
                        refine ⟨?_, by simp (disch := omega) only [sw_a, sw_s, sw_i]; exact hj2.2⟩
                        unfold upd
                        by_cases e : j = b
                        · subst e
                          simp (disch := omega) only [sw_a, sw_s, sw_i]
                          exact (if_pos trivial).symm
                        · simp (disch := omega) only [sw_a, sw_s, sw_i]
                          rw [if_neg e]
                          exact hj2.1)⟩, by simp (disch := omega) only [sw_a, sw_s, sw_i], fun j hj => (by
                      rcases Nat.lt_or_ge j i with q | q
                      · have f := f4 j q
                        simp (disch := omega) only [sw_a, sw_s, sw_i]
                        exact f
                      · have e : j = i := by omega
                        subst e
                        simp (disch := omega) only [sw_a, sw_s, sw_i]
                        rw [hg]
                        exact ⟨rfl, rfl⟩), fun b hb => (by simp (disch := omega) only [sw_a, sw_s, sw_i]; exact f5 b hb), by simp [v6], by rw [v7]; simp, v8⟩)
              · exact absurd c_70 (nI_m1 (by omega))
set_option maxRecDepth 100000 in
set_option maxHeartbeats 4000000 in
theorem c_X0_redo {G : gG} {V : wV} {lo : Nat → Int64} {B n0 n1 t0 t1 : Nat} {h0 h1 g0 g1 : Nat → Int32} (hB : batAt V B) {s : sgT} (hs0 : sideIs s (B + 1) n0 h0 g0 t0) (hs1 : sideIs s (B + 4) n1 h1 g1 t1) {R : List (Nat × Int32)} (hR : logIs s B R) (hin : ∀ j, j < R.length → (j % 2 = 0 → (R.getD j (0, 0)).1 < n1) ∧ (¬ j % 2 = 0 → (R.getD j (0, 0)).1 < n0)) : CSv G V mX0_redo cX0_redo (rmD 2 0 0) [.ref (ad V B)] s lo (fun s' => (∃ t', sideIs s' (B + 1) n0 (rdI R h0 h1 R.length).1 g0 t') ∧ (∃ t', sideIs s' (B + 4) n1 (rdI R h0 h1 R.length).2 g1 t') ∧ (∀ b, b < B ∨ B + 9 ≤ b → s' b = s b)) (fun _ => False) := by
  refine CSv.of (L := [some (.ref (ad V B)), none, none]) rfl (by decide +kernel) rfl (Nat.le_of_ble_eq_true rfl) rfl ?_
  refine rIconst (v := (nI (0))) dX0_redo_0 (by decide) ?_
  refine rIstore_n dX0_redo_1 (by decide) ?_
  obtain ⟨r1, r2, r3⟩ := hR
  refine loopW (σ := sgT) (R.length) (fun i y => [some (.ref (ad V B)), some (.int (nI i)), none]) (fun i y => y) (fun i y => sideIs y (B + 1) n0 (rdI R h0 h1 i).1 g0 t0 ∧ sideIs y (B + 4) n1 (rdI R h0 h1 i).2 g1 t1 ∧ (∀ b, b ≠ B + 2 → b ≠ B + 5 → y b = s b)) (0) s (by omega) ⟨hs0, hs1, fun _ _ _ => rfl⟩ (fun i y hi hinv ih => ?_)
  obtain ⟨v1, v2, v3⟩ := hinv
  refine rIload_n dX0_redo_2 rfl ?_
  refine rAload_n dX0_redo_3 rfl ?_
  refine sGetI (x := (nI (R.length))) dX0_redo_4 fl_X0_32 hB.1 (by decide) rfl (by rw [v3 _ (by omega) (by omega), r1]) ?_
  refine r_icmp_ge (tgt := 50) dX0_redo_7 (by decide) (fun c_7 => ?_) (fun c_7 => ?_)
  · have c_7 : (R.length) ≤ i := (nI_leI (by omega) (by omega)).mp c_7
    have e : i = R.length := by omega
    subst e
    exact sVret dX0_redo_50 rfl (Nat.le_of_ble_eq_true rfl) (Nat.le_of_ble_eq_true rfl) ⟨rfl, ⟨⟨t0, v1⟩, ⟨t1, v2⟩, fun b hb => v3 b (by omega) (by omega)⟩⟩
  · have c_7 : ¬ ((R.length) ≤ i) := fun h => c_7 ((nI_leI (by omega) (by omega)).mpr h)
    obtain ⟨i1, i2⟩ := hin i (by omega)
    obtain ⟨b, hb⟩ : ∃ b, b = (R.getD i (0, 0)).1 := ⟨_, rfl⟩
    obtain ⟨z, hz⟩ : ∃ z, z = (R.getD i (0, 0)).2 := ⟨_, rfl⟩
    have q1 := (r2 i (by omega)).1
    have q2 := (r2 i (by omega)).2
    rw [← hb] at q1 i1 i2
    rw [← hz] at q2
    have hn0 := hs0.1
    have hn1 := hs1.1
    refine rIload_n dX0_redo_10 rfl ?_
    refine rIconst (v := (nI (2))) dX0_redo_11 (by decide) ?_
    refine nIrem dX0_redo_12 (by omega) (by decide) (by decide) ?_
    refine r_if_ne (tgt := 23) dX0_redo_13 (by decide) (fun c_13 => ?_) (fun c_13 => ?_)
    · have c_13 : ¬ ((i % 2) = 0) := fun h => c_13 ((nz_eq (by omega)).mpr h)
      have hbn := i2 c_13
      refine rAload_n dX0_redo_23 rfl ?_
      refine sGetR dX0_redo_24 fl_X0_12 hB.1 (by decide) rfl ?_
      refine rAstore_n dX0_redo_27 (by decide) ?_
      refine rAload_n dX0_redo_28 rfl ?_
      refine rAload_n dX0_redo_29 rfl ?_
      refine sGetR dX0_redo_30 fl_X0_21 hB.1 (by decide) rfl ?_
      refine rIload_n dX0_redo_33 rfl ?_
      refine nIald (v := (nI (b))) dX0_redo_34 hB.2.2.2.1 (by omega) (by omega) (by rw [v3 _ (by omega) (by omega), q1]) ?_
      refine rAload_n dX0_redo_35 rfl ?_
      refine sGetR dX0_redo_36 fl_X0_25 hB.1 (by decide) rfl ?_
      refine rIload_n dX0_redo_39 rfl ?_
      refine nIald (v := (z)) dX0_redo_40 hB.2.2.2.2 (by omega) (by omega) (by rw [v3 _ (by omega) (by omega), q2]) ?_
      refine sCallVv (M' := mX4_takeBlow) (rm' := rmD 1 0 0) (As := [.int (nI b), .int z]) (rest := []) dX0_redo_41 rfl mk_X4_takeBlow mi_X4_takeBlow ll_X0_46 ⟨(Nat.le_of_ble_eq_true rfl), (Nat.le_of_ble_eq_true rfl)⟩ hB.2.1.1 (by decide) rfl rfl (Nat.le_of_ble_eq_true rfl) (Nat.le_of_ble_eq_true rfl) (c_X4_takeBlow hB.2.1 v1 hbn) rfl (Nat.le_of_ble_eq_true rfl) (fun y2 ek => ?_)
      subst ek
      refine rIinc (v := (nI (i + 1))) dX0_redo_44 rfl (by first | exact nI_add _ _ | rfl) (by decide) ?_
      refine rGoto (tgt := 2) dX0_redo_47 (by decide) ?_
      refine rForget (L := [some (.ref (ad V B)), some (.int (nI (i + 1))), some (.ref (ad V (B + 1)))]) (L' := [some (.ref (ad V B)), some (.int (nI (i + 1))), none]) (by exact ⟨rfl, ⟨rfl, trivial⟩⟩) ?_
      have e : rdI R h0 h1 (i + 1) = (upd (rdI R h0 h1 i).1 b ((rdI R h0 h1 i).1 b - z), (rdI R h0 h1 i).2) := by
        simp only [rdI]
        rw [if_neg c_13, ← hb, ← hz]
      exact ih (by omega) _ ⟨by rw [e]; exact ⟨v1.1, by simp (disch := omega) only [sw_a, sw_s, sw_i]; exact v1.2.1, (by obtain ⟨tc, q1, q2, q3⟩ := v1.2.2.1; exact ⟨tc, q1, by simp (disch := omega) only [sw_a, sw_s, sw_i]; exact q2, q3⟩), fun j hj => (by
              have hj2 := v1.2.2.2 j hj
              refine ⟨?_, by simp (disch := omega) only [sw_a, sw_s, sw_i]; exact hj2.2⟩
              unfold upd
              by_cases e : j = b
              · subst e
                simp (disch := omega) only [sw_a, sw_s, sw_i]
                exact (if_pos trivial).symm
              · simp (disch := omega) only [sw_a, sw_s, sw_i]
                rw [if_neg e]
                exact hj2.1)⟩, by rw [e]; exact sideIs_keep v2 (sw_a (by omega)) (sw_a (by omega)) (sw_a (by omega)), fun b h1 h2 => by rw [sw_a (by omega)]; exact v3 b h1 h2⟩
    · have c_13 : (i % 2) = 0 := (nz_eq (by omega)).mp c_13
      have hbn := i1 c_13
      refine rAload_n dX0_redo_16 rfl ?_
      refine sGetR dX0_redo_17 fl_X0_18 hB.1 (by decide) rfl ?_
      refine rGoto (tgt := 27) dX0_redo_20 (by decide) ?_
      refine rAstore_n dX0_redo_27 (by decide) ?_
      refine rAload_n dX0_redo_28 rfl ?_
      refine rAload_n dX0_redo_29 rfl ?_
      refine sGetR dX0_redo_30 fl_X0_21 hB.1 (by decide) rfl ?_
      refine rIload_n dX0_redo_33 rfl ?_
      refine nIald (v := (nI (b))) dX0_redo_34 hB.2.2.2.1 (by omega) (by omega) (by rw [v3 _ (by omega) (by omega), q1]) ?_
      refine rAload_n dX0_redo_35 rfl ?_
      refine sGetR dX0_redo_36 fl_X0_25 hB.1 (by decide) rfl ?_
      refine rIload_n dX0_redo_39 rfl ?_
      refine nIald (v := (z)) dX0_redo_40 hB.2.2.2.2 (by omega) (by omega) (by rw [v3 _ (by omega) (by omega), q2]) ?_
      refine sCallVv (M' := mX4_takeBlow) (rm' := rmD 1 0 0) (As := [.int (nI b), .int z]) (rest := []) dX0_redo_41 rfl mk_X4_takeBlow mi_X4_takeBlow ll_X0_46 ⟨(Nat.le_of_ble_eq_true rfl), (Nat.le_of_ble_eq_true rfl)⟩ hB.2.2.1.1 (by decide) rfl rfl (Nat.le_of_ble_eq_true rfl) (Nat.le_of_ble_eq_true rfl) (c_X4_takeBlow hB.2.2.1 v2 hbn) rfl (Nat.le_of_ble_eq_true rfl) (fun y2 ek => ?_)
      subst ek
      refine rIinc (v := (nI (i + 1))) dX0_redo_44 rfl (by first | exact nI_add _ _ | rfl) (by decide) ?_
      refine rGoto (tgt := 2) dX0_redo_47 (by decide) ?_
      refine rForget (L := [some (.ref (ad V B)), some (.int (nI (i + 1))), some (.ref (ad V (B + 4)))]) (L' := [some (.ref (ad V B)), some (.int (nI (i + 1))), none]) (by exact ⟨rfl, ⟨rfl, trivial⟩⟩) ?_
      have e : rdI R h0 h1 (i + 1) = ((rdI R h0 h1 i).1, upd (rdI R h0 h1 i).2 b ((rdI R h0 h1 i).2 b - z)) := by
        simp only [rdI]
        rw [if_pos c_13, ← hb, ← hz]
      exact ih (by omega) _ ⟨by rw [e]; exact sideIs_keep v1 (sw_a (by omega)) (sw_a (by omega)) (sw_a (by omega)), by rw [e]; exact ⟨v2.1, by simp (disch := omega) only [sw_a, sw_s, sw_i]; exact v2.2.1, (by obtain ⟨tc, q1, q2, q3⟩ := v2.2.2.1; exact ⟨tc, q1, by simp (disch := omega) only [sw_a, sw_s, sw_i]; exact q2, q3⟩), fun j hj => (by
              have hj2 := v2.2.2.2 j hj
              refine ⟨?_, by simp (disch := omega) only [sw_a, sw_s, sw_i]; exact hj2.2⟩
              unfold upd
              by_cases e : j = b
              · subst e
                simp (disch := omega) only [sw_a, sw_s, sw_i]
                exact (if_pos trivial).symm
              · simp (disch := omega) only [sw_a, sw_s, sw_i]
                rw [if_neg e]
                exact hj2.1)⟩, fun b h1 h2 => by rw [sw_a (by omega)]; exact v3 b h1 h2⟩
