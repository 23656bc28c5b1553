/-! the reference: shops (by program) -/
theorem pick_none {pl : Nat → Nat} {hc : Nat} : ∀ {f k w : Nat}, pickF pl f k w = none → upI pl hc (k + f) ≤ upI pl hc k + w
  | 0, k, w, _ => Nat.le_add_right _ _
  | f + 1, k, w, e => by
    simp only [pickF] at e
    split at e
    · cases e
    · rename_i hc'
      have h1 := pick_none (hc := hc) e
      have h2 : upI pl hc (k + 1) ≤ upI pl hc k + pl k := by
        simp only [upI]
        split <;> omega
      rw [show k + (f + 1) = k + 1 + f by omega]
      omega
theorem draw_some {pl : Nat → Nat} {n hc : Nat} (h : 0 < upI pl hc 9) : ∃ d, drawR pl n hc = some d ∧ pickF pl 9 0 (n % upI pl hc 9) = some d := by
  have e : drawR pl n hc = pickF pl 9 0 (n % upI pl hc 9) := if_neg (by omega)
  cases hp : pickF pl 9 0 (n % upI pl hc 9) with
  | none =>
    have h1 := pick_none (hc := hc) hp
    have h2 := Nat.mod_lt n h
    have h3 : upI pl hc 0 = 0 := rfl
    rw [h3, Nat.zero_add, Nat.zero_add] at h1
    omega
  | some d => exact ⟨d, e.trans hp, rfl⟩
def poolsIs (s : sgT) (m : Nat) (pl : Nat → Nat) : Prop := ∀ k, k < 9 → s (m + 2) k = nI (pl k)
theorem modIs_ext {s : sgT} {m : Nat} {h h' : hT} (hh : modIs s m h) (h0 : hQ h = hQ h') (h1 : hP h = hP h') (h2 : ∀ p, p < 4 → hY h p = hY h' p) (h3 : hR h = hR h') : modIs s m h' := by
  refine ⟨h3 ▸ hh.1, h0 ▸ hh.2.1, h1 ▸ hh.2.2.1, fun p hp => h2 p hp ▸ hh.2.2.2 p hp⟩
theorem modIs_keep {s s' : sgT} {m : Nat} {h : hT} (hh : modIs s m h) (h0 : ∀ j, 1 ≤ j → s' m j = s m j) (h1 : ∀ a, 1 ≤ a → a ≤ 12 → s' (m + a) = s (m + a)) : modIs s' m h :=
  ⟨(h0 1 (by omega)).trans hh.1, mque_keep hh.2.1 (fun j hj => h0 j (by omega)) (h1 1 (by omega) (by omega)), fun k hk => by rw [h1 2 (by omega) (by omega)]; exact hh.2.2.1 k hk, fun p hp => by
    obtain ⟨e1, e2, e3, e4, e5, e6, e7, e8⟩ := hh.2.2.2 p hp
    exact ⟨by rw [h1 3 (by omega) (by omega)]; exact e1, by rw [h1 4 (by omega) (by omega)]; exact e2, by rw [h1 5 (by omega) (by omega)]; exact e3, by rw [h1 6 (by omega) (by omega)]; exact e4, by rw [h1 8 (by omega) (by omega)]; exact e5, fun j hj => by rw [h1 7 (by omega) (by omega)]; exact e6 j hj, mrow_keep e7 (by rw [h1 11 (by omega) (by omega)]) (fun i _ => by rw [h1 12 (by omega) (by omega)]), mrow_keep e8 (by rw [h1 9 (by omega) (by omega)]) (fun i _ => by rw [h1 10 (by omega) (by omega)])⟩⟩
set_option maxRecDepth 100000 in
set_option maxHeartbeats 4000000 in
theorem c_X7_next {G : gG} {V : wV} {lo : Nat → Int64} {m : Nat} (hm : modAt V m) {s : sgT} {q : List Nat} (hq : mque s m q) : CSi G V mX7_next cX7_next (rmD 1 0 0) [.ref (ad V m)] s lo (fun v s' => mque s' m q.tail ∧ v = nI (q.headD 0) ∧ (∀ b, b ≠ m → s' b = s b) ∧ (∀ j, j ≠ 2 → j ≠ 3 → s' m j = s m j)) (fun _ => False) := by
  refine CSi.of (L := [some (.ref (ad V m)), none]) rfl (by decide +kernel) rfl (Nat.le_of_ble_eq_true rfl) rfl ?_
  obtain ⟨f, hf, q1, q2, q3, q4⟩ := hq
  refine rAload_n dX7_next_0 rfl ?_
  refine sGetI (x := (nI (q.length))) dX7_next_1 fl_X7_68 hm.1 (by decide) rfl (by rw [q2]) ?_
  refine r_if_ne (tgt := 9) dX7_next_4 (by decide) (fun c_4 => ?_) (fun c_4 => ?_)
  · have c_4 : ¬ ((q.length) = 0) := fun h => c_4 ((nz_eq (by omega)).mpr h)
    obtain ⟨x, q0, rfl⟩ : ∃ x q0, q = x :: q0 := (by cases q with | nil => exact absurd rfl c_4 | cons x q0 => exact ⟨x, q0, rfl⟩)
    have hx : s (m + 1) f = nI x := (by have z := q4 0 (by simp); rw [show (f + 0) % 100 = f by omega] at z; exact z)
    simp only [List.length_cons] at q2 q3 q4
    refine rAload_n dX7_next_9 rfl ?_
    refine sGetR dX7_next_10 fl_X7_7 hm.1 (by decide) rfl ?_
    refine rAload_n dX7_next_13 rfl ?_
    refine sGetI (x := (nI (f))) dX7_next_14 fl_X7_74 hm.1 (by decide) rfl (by rw [q1]) ?_
    refine nIald (v := (nI (x))) dX7_next_17 hm.2.1 (by omega) (by omega) (by rw [hx]) ?_
    refine rIstore_n dX7_next_18 (by decide) ?_
    refine rAload_n dX7_next_19 rfl ?_
    refine rAload_n dX7_next_20 rfl ?_
    refine sGetI (x := (nI (f))) dX7_next_21 fl_X7_74 hm.1 (by decide) rfl (by rw [q1]) ?_
    refine rIconst (v := (nI (1))) dX7_next_24 (by decide) ?_
    refine nIadd dX7_next_25 ?_
    refine rBipush (v := (nI (100))) dX7_next_26 (by decide) ?_
    refine nIrem dX7_next_28 (by omega) (by decide) (by decide) ?_
    refine sPutI dX7_next_29 fl_X7_74 ft_X7 rfl hm.1 (by decide) rfl rfl rfl ?_
    refine rAload_n dX7_next_32 rfl ?_
    refine rDup dX7_next_33 rfl ?_
    refine sGetI (x := (nI (q0.length + 1))) dX7_next_34 fl_X7_68 hm.1 (by decide) rfl (by rw [sw_i (by decide), q2]) ?_
    refine rIconst (v := (nI (1))) dX7_next_37 (by decide) ?_
    refine nIsub dX7_next_38 (by omega) ?_
    refine sPutI dX7_next_39 fl_X7_68 ft_X7 rfl hm.1 (by decide) rfl rfl rfl ?_
    refine rIload_n dX7_next_42 rfl ?_
    exact sIret dX7_next_43 rfl rfl (Nat.le_of_ble_eq_true rfl) (Nat.le_of_ble_eq_true rfl) ⟨_, rfl, ⟨⟨(f + 1) % 100, (by omega), (by rw [sw_i (by decide), sw_s]), (by rw [sw_s]; rfl), (by show q0.length ≤ 100; omega), fun i hi => (by
            have hi' : i < q0.length := hi
            rw [sw_a (by omega), sw_a (by omega)]
            have z := q4 (i + 1) (by omega)
            rw [show ((f + 1) % 100 + i) % 100 = (f + (i + 1)) % 100 by omega]
            exact z)⟩, rfl, fun b hb => (by rw [sw_a hb, sw_a hb]), fun j h2 h3 => by rw [sw_i h3, sw_i h2]⟩⟩
  · have c_4 : (q.length) = 0 := (nz_eq (by omega)).mp c_4
    refine rIconst (v := (nI (0))) dX7_next_7 (by decide) ?_
    have e : q = [] := List.length_eq_zero_iff.mp c_4
    subst e
    exact sIret dX7_next_8 rfl rfl (Nat.le_of_ble_eq_true rfl) (Nat.le_of_ble_eq_true rfl) ⟨_, rfl, ⟨⟨f, hf, q1, q2, q3, q4⟩, rfl, fun _ _ => rfl, fun _ _ _ => rfl⟩⟩
set_option maxRecDepth 100000 in
set_option maxHeartbeats 4000000 in
theorem c_X7_fillsSlot {G : gG} {V : wV} {lo : Nat → Int64} {m : Nat} (hm : modAt V m) {s : sgT} {q : List Nat} {pl : Nat → Nat} {lev p j B : Nat} (hq : mque s m q) (hpl : poolsIs s m pl) (hpo : poolOk B pl) (hB : B ≤ 20000) (hq0 : q.headD 0 ≤ 1000) (hl : s (m + 4) p = nI lev) (hlev : lev ≤ 5) (hp : p < 4) (hj : j < 3) (hsh : s (m + 7) (3 * p + j) = -1) : CSv G V mX7_fillsSlot cX7_fillsSlot (rmD 2 0 0) [.ref (ad V m), .int (nI p), .int (nI j)] s lo (fun s' => mque s' m q.tail ∧ poolsIs s' m (decP pl (drawR pl (q.headD 0) (lev + 1))) ∧ s' (m + 7) (3 * p + j) = shI (drawR pl (q.headD 0) (lev + 1)) ∧ (∀ i, i ≠ 3 * p + j → s' (m + 7) i = s (m + 7) i) ∧ (∀ b, b ≠ m → b ≠ m + 2 → b ≠ m + 7 → s' b = s b) ∧ (∀ j, j ≠ 2 → j ≠ 3 → s' m j = s m j)) (fun _ => False) := by
  refine CSv.of (L := [some (.ref (ad V m)), some (.int (nI p)), some (.int (nI j)), none, none, none, none]) rfl (by decide +kernel) rfl (Nat.le_of_ble_eq_true rfl) rfl ?_
  refine rAload_n dX7_fillsSlot_0 rfl ?_
  refine sCallVi (M' := mX7_next) (rm' := rmD 1 0 0) (As := []) (rest := []) dX7_fillsSlot_1 rfl mk_X7_next mi_X7_next ll_X7_77 ⟨(Nat.le_of_ble_eq_true rfl), (Nat.le_of_ble_eq_true rfl)⟩ hm.1 (by decide) rfl rfl (Nat.le_of_ble_eq_true rfl) (Nat.le_of_ble_eq_true rfl) (c_X7_next hm hq) rfl (Nat.le_of_ble_eq_true rfl) (fun v s1 e => ?_)
  obtain ⟨e1, rfl, e2, e3⟩ := e
  have hl1 : s1 (m + 4) p = nI lev := by rw [e2 _ (by omega)]; exact hl
  have hp1 : poolsIs s1 m pl := fun k hk => by rw [e2 _ (by omega)]; exact hpl k hk
  have hsh1 : s1 (m + 7) (3 * p + j) = -1 := by rw [e2 _ (by omega)]; exact hsh
  have hup := upI_le (hc := lev + 1) hpo
  refine rIstore_n dX7_fillsSlot_4 (by decide) ?_
  refine rIconst (v := (nI (0))) dX7_fillsSlot_5 (by decide) ?_
  refine rIstore dX7_fillsSlot_6 (by decide) ?_
  refine rIconst (v := (nI (0))) dX7_fillsSlot_8 (by decide) ?_
  refine rIstore dX7_fillsSlot_9 (by decide) ?_
  refine loopW (σ := Unit) (9) (fun i _ => [some (.ref (ad V m)), some (.int (nI p)), some (.int (nI j)), some (.int (nI (q.headD 0))), some (.int (nI (upI pl (lev + 1) i))), some (.int (nI i)), none]) (fun i _ => s1) (fun i _ => True) (0) () (by omega) trivial (fun i _ hi hinv ih => ?_)
  refine rIload dX7_fillsSlot_11 rfl ?_
  refine rBipush (v := (nI (9))) dX7_fillsSlot_13 (by decide) ?_
  refine r_icmp_ge (tgt := 56) dX7_fillsSlot_15 (by decide) (fun c_15 => ?_) (fun c_15 => ?_)
  · have c_15 : 9 ≤ i := (nI_leI (by omega) (by omega)).mp c_15
    have e : i = 9 := by omega
    subst e
    have hu9 := hup 9 (by omega)
    refine rIload dX7_fillsSlot_56 rfl ?_
    refine r_if_le (tgt := 123) dX7_fillsSlot_58 (by decide) (fun c_58 => ?_) (fun c_58 => ?_)
    · have c_58 : (upI pl (lev + 1) 9) = 0 := (nz_le (by omega)).mp c_58
      have hd : (drawR pl (q.headD 0) (lev + 1)) = none := if_pos c_58
      rw [hd]
      exact sVret dX7_fillsSlot_123 rfl (Nat.le_of_ble_eq_true rfl) (Nat.le_of_ble_eq_true rfl) ⟨rfl, ⟨e1, hp1, hsh1, fun i _ => by rw [e2 _ (by omega)], fun b h0 _ _ => e2 b h0, e3⟩⟩
    · have c_58 : ¬ ((upI pl (lev + 1) 9) = 0) := fun h => c_58 ((nz_le (by omega)).mpr h)
      obtain ⟨r, hr1, hr2⟩ := draw_some (pl := pl) (n := q.headD 0) (hc := lev + 1) (by omega)
      rw [hr1]
      have hw := Nat.mod_lt (q.headD 0) (show 0 < upI pl (lev + 1) 9 by omega)
      refine rIload_n dX7_fillsSlot_61 rfl ?_
      refine rIload dX7_fillsSlot_62 rfl ?_
      refine nIrem dX7_fillsSlot_64 (by omega) (by omega) (by omega) ?_
      refine rIstore dX7_fillsSlot_65 (by decide) ?_
      refine rIconst (v := (nI (0))) dX7_fillsSlot_67 (by decide) ?_
      refine rIstore dX7_fillsSlot_68 (by decide) ?_
      refine loopM (σ := Nat × Nat) (fun x => 9 - x.1) (fun x => [some (.ref (ad V m)), some (.int (nI p)), some (.int (nI j)), some (.int (nI (q.headD 0))), some (.int (nI (upI pl (lev + 1) 9))), some (.int (nI (x.2))), some (.int (nI (x.1)))]) (fun x => s1) (fun x => x.1 ≤ 9 ∧ x.2 ≤ 200000 ∧ pickF pl (9 - x.1) x.1 x.2 = some r) (0, q.headD 0 % upI pl (lev + 1) 9) ⟨Nat.zero_le _, (show _ % _ ≤ 200000 by omega), hr2⟩ (fun x hinv ih => ?_)
      obtain ⟨k, y⟩ := x
      obtain ⟨g1, g2, g3⟩ := hinv
      dsimp only at g1 g2 g3 ih
      have hk : k < 9 := Nat.lt_of_le_of_ne g1 (fun e => by subst e; simp [pickF] at g3)
      rw [show 9 - k = (9 - (k + 1)) + 1 by omega] at g3
      simp only [pickF] at g3
      have hbk := hpo k hk
      refine rIload dX7_fillsSlot_70 rfl ?_
      refine rAload_n dX7_fillsSlot_72 rfl ?_
      refine sGetR dX7_fillsSlot_73 fl_X7_13 hm.1 (by decide) rfl ?_
      refine rIload dX7_fillsSlot_76 rfl ?_
      refine nIald (v := (nI (pl k))) dX7_fillsSlot_78 hm.2.2.1 (by omega) (by omega) (by rw [hp1 k hk]) ?_
      refine r_icmp_lt (tgt := 100) dX7_fillsSlot_79 (by decide) (fun c_79 => ?_) (fun c_79 => ?_)
      · have c_79 : y < (pl k) := (nI_ltI (by omega) (by omega)).mp c_79
        rw [if_pos c_79] at g3
        have g4 := Option.some.inj g3
        subst g4
        refine rAload_n dX7_fillsSlot_100 rfl ?_
        refine sGetR dX7_fillsSlot_101 fl_X7_13 hm.1 (by decide) rfl ?_
        refine rIload dX7_fillsSlot_104 rfl ?_
        refine rDup2 dX7_fillsSlot_106 rfl rfl ?_
        refine nIald (v := (nI (pl k))) dX7_fillsSlot_107 hm.2.2.1 (by omega) (by omega) (by rw [hp1 k hk]) ?_
        refine rIconst (v := (nI (1))) dX7_fillsSlot_108 (by decide) ?_
        refine nIsub dX7_fillsSlot_109 (by omega) ?_
        refine nIast dX7_fillsSlot_110 hm.2.2.1 (by omega) (by omega) ?_
        refine rAload_n dX7_fillsSlot_111 rfl ?_
        refine sGetR dX7_fillsSlot_112 fl_X7_28 hm.1 (by decide) rfl ?_
        refine rIconst (v := (nI (3))) dX7_fillsSlot_115 (by decide) ?_
        refine rIload_n dX7_fillsSlot_116 rfl ?_
        refine nImul dX7_fillsSlot_117 ?_
        refine rIload_n dX7_fillsSlot_118 rfl ?_
        refine nIadd dX7_fillsSlot_119 ?_
        refine rIload dX7_fillsSlot_120 rfl ?_
        refine nIast dX7_fillsSlot_122 hm.2.2.2.2.2.2.2.1 (by omega) (by omega) ?_
        exact sVret dX7_fillsSlot_123 rfl (Nat.le_of_ble_eq_true rfl) (Nat.le_of_ble_eq_true rfl) ⟨rfl, ⟨mque_keep e1 (fun j hj => by rw [sw_a (by omega), sw_a (by omega)]) (by rw [sw_a (by omega), sw_a (by omega)]), fun i hi => (by
                rw [sw_a (by omega)]
                show _ = nI (if i = k then pl i - 1 else pl i)
                by_cases e : i = k
                · subst e
                  rw [sw_s, if_pos rfl]
                · rw [sw_i e, if_neg e]
                  exact hp1 i hi), sw_s, fun i hi => by rw [sw_i hi, sw_a (by omega), e2 _ (by omega)], fun b h0 h1 h2 => by rw [sw_a h2, sw_a h1, e2 b h0], fun j h1 h2 => by rw [sw_a (by omega), sw_a (by omega)]; exact e3 j h1 h2⟩⟩
      · have c_79 : ¬ (y < (pl k)) := fun h => c_79 ((nI_ltI (by omega) (by omega)).mpr h)
        rw [if_neg c_79] at g3
        refine rIload dX7_fillsSlot_82 rfl ?_
        refine rAload_n dX7_fillsSlot_84 rfl ?_
        refine sGetR dX7_fillsSlot_85 fl_X7_13 hm.1 (by decide) rfl ?_
        refine rIload dX7_fillsSlot_88 rfl ?_
        refine nIald (v := (nI (pl k))) dX7_fillsSlot_90 hm.2.2.1 (by omega) (by omega) (by rw [hp1 k hk]) ?_
        refine nIsub dX7_fillsSlot_91 (by omega) ?_
        refine rIstore dX7_fillsSlot_92 (by decide) ?_
        refine rIinc (v := (nI (k + 1))) dX7_fillsSlot_94 rfl (by first | exact nI_add _ _ | rfl) (by decide) ?_
        refine rGoto (tgt := 70) dX7_fillsSlot_97 (by decide) ?_
        exact ih (k + 1, y - pl k) (show 9 - (k + 1) < 9 - k by omega) ⟨by omega, by show y - pl k ≤ 200000; omega, g3⟩
  · have c_15 : ¬ (9 ≤ i) := fun h => c_15 ((nI_leI (by omega) (by omega)).mpr h)
    have hu1 := hup (i + 1) (by omega)
    have hu2 := hup i (by omega)
    have hbk := hpo i (by omega)
    have hz := ih (by omega) () trivial
    simp only [upI] at hz
    have hc3 : cst i ≤ 3 := by unfold cst; omega
    refine rIload dX7_fillsSlot_18 rfl ?_
    refine rIload dX7_fillsSlot_20 rfl ?_
    refine sCallSp (M' := mX7_cost) (rm' := rmD 1 0 0) (As := [.int (nI i)]) (rest := [.int (nI (upI pl (lev + 1) i))]) dX7_fillsSlot_22 rfl mk_X7_cost ms_X7_cost ll_X7_81 ⟨(Nat.le_of_ble_eq_true rfl), (Nat.le_of_ble_eq_true rfl)⟩ rfl (Nat.le_of_ble_eq_true rfl) (Nat.le_of_ble_eq_true rfl) (c_X7_cost (by omega)) rfl (Nat.le_of_ble_eq_true rfl) (fun v ec => ?_)
    refine tTop (w := (nI (cst i))) ec ?_
    refine rAload_n dX7_fillsSlot_25 rfl ?_
    refine sGetR dX7_fillsSlot_26 fl_X7_19 hm.1 (by decide) rfl ?_
    refine rIload_n dX7_fillsSlot_29 rfl ?_
    refine nIald (v := (nI (lev))) dX7_fillsSlot_30 hm.2.2.2.2.1 (by omega) (by omega) (by rw [hl1]) ?_
    refine rIconst (v := (nI (1))) dX7_fillsSlot_31 (by decide) ?_
    refine nIadd dX7_fillsSlot_32 ?_
    refine r_icmp_gt (tgt := 46) dX7_fillsSlot_33 (by decide) (fun c_33 => ?_) (fun c_33 => ?_)
    · have c_33 : (lev + 1) < (cst i) := (nI_ltI (by omega) (by omega)).mp c_33
      rw [if_neg (show ¬ cst i ≤ lev + 1 by omega)] at hz
      refine rIconst (v := (nI (0))) dX7_fillsSlot_46 (by decide) ?_
      refine nIadd dX7_fillsSlot_47 ?_
      refine rIstore dX7_fillsSlot_48 (by decide) ?_
      refine rIinc (v := (nI (i + 1))) dX7_fillsSlot_50 rfl (by first | exact nI_add _ _ | rfl) (by decide) ?_
      refine rGoto (tgt := 11) dX7_fillsSlot_53 (by decide) ?_
      exact hz
    · have c_33 : ¬ ((lev + 1) < (cst i)) := fun h => c_33 ((nI_ltI (by omega) (by omega)).mpr h)
      rw [if_pos (show cst i ≤ lev + 1 by omega)] at hz
      refine rAload_n dX7_fillsSlot_36 rfl ?_
      refine sGetR dX7_fillsSlot_37 fl_X7_13 hm.1 (by decide) rfl ?_
      refine rIload dX7_fillsSlot_40 rfl ?_
      refine nIald (v := (nI (pl i))) dX7_fillsSlot_42 hm.2.2.1 (by omega) (by omega) (by rw [hp1 i (by omega)]) ?_
      refine rGoto (tgt := 47) dX7_fillsSlot_43 (by decide) ?_
      refine nIadd dX7_fillsSlot_47 ?_
      refine rIstore dX7_fillsSlot_48 (by decide) ?_
      refine rIinc (v := (nI (i + 1))) dX7_fillsSlot_50 rfl (by first | exact nI_add _ _ | rfl) (by decide) ?_
      refine rGoto (tgt := 11) dX7_fillsSlot_53 (by decide) ?_
      exact hz
set_option maxRecDepth 100000 in
set_option maxHeartbeats 4000000 in
theorem c_X7_fills {G : gG} {V : wV} {lo : Nat → Int64} {m : Nat} (hm : modAt V m) {s : sgT} {h : hT} (hh : modIs s m h) {B : Nat} (hok : hallOk B h) (hB : B ≤ 19500) {p : Nat} (hp : p < 4) : CSv G V mX7_fills cX7_fills (rmD 3 0 0) [.ref (ad V m), .int (nI p)] s lo (fun s' => modIs s' m ((fun h1 : hT => setY h1 p (wC (hY h1 p) false)) (fillH h p)) ∧ s' m 0 = s m 0 ∧ mFr s s' m) (fun _ => False) := by
  refine CSv.of (L := [some (.ref (ad V m)), some (.int (nI p)), none, none]) rfl (by decide +kernel) rfl (Nat.le_of_ble_eq_true rfl) rfl ?_
  have yp : mpl s m p (hY h p) := hh.2.2.2 p hp
  have bdp : mrow s (m + 11) (m + 12) p 5 (pBrd (hY h p)) := yp.2.2.2.2.2.2.1
  have bnp : mrow s (m + 9) (m + 10) p 6 (pBen (hY h p)) := yp.2.2.2.2.2.2.2
  obtain ⟨o1p, o2p, o3p, o4p, o5p, o6p, o7p, o8p, o9p⟩ := hok.2.2.1 p hp
  refine rIconst (v := (nI (0))) dX7_fills_0 (by decide) ?_
  refine rIstore_n dX7_fills_1 (by decide) ?_
  refine loopW (σ := sgT) (3) (fun i y => [some (.ref (ad V m)), some (.int (nI p)), some (.int (nI i)), none]) (fun i y => y) (fun i y => poolsIs y m (fill1 (hP h) (pShp (hY h p)) i) ∧ (∀ j, j < 3 → y (m + 7) (3 * p + j) = if j < i then -1 else shI (pShp (hY h p) j)) ∧ (∀ j, j < 3 * p ∨ 3 * p + 3 ≤ j → y (m + 7) j = s (m + 7) j) ∧ (∀ b, b ≠ m + 2 → b ≠ m + 7 → y b = s b)) (0) s (by omega) ⟨hh.2.2.1, fun j hj => by rw [if_neg (by omega)]; exact yp.2.2.2.2.2.1 j hj, fun _ _ => rfl, fun _ _ _ => rfl⟩ (fun i y hi hinv ih => ?_)
  obtain ⟨v1, v2, v3, v4⟩ := hinv
  refine rIload_n dX7_fills_2 rfl ?_
  refine rIconst (v := (nI (3))) dX7_fills_3 (by decide) ?_
  refine r_icmp_ge (tgt := 50) dX7_fills_4 (by decide) (fun c_4 => ?_) (fun c_4 => ?_)
  · have c_4 : 3 ≤ i := (nI_leI (by omega) (by omega)).mp c_4
    have e : i = 3 := by omega
    subst e
    refine rIconst (v := (nI (0))) dX7_fills_50 (by decide) ?_
    refine rIstore_n dX7_fills_51 (by decide) ?_
    refine loopW (σ := sgT) (3) (fun j z => [some (.ref (ad V m)), some (.int (nI p)), some (.int (nI j)), none]) (fun j z => z) (fun j z => mque z m (fillS (hQ h) (hP h) (pShp (hY h p)) (pLev (hY h p)) j).1 ∧ poolsIs z m (fillS (hQ h) (hP h) (pShp (hY h p)) (pLev (hY h p)) j).2.1 ∧ (∀ i, i < 3 → z (m + 7) (3 * p + i) = if i < j then shI ((fillS (hQ h) (hP h) (pShp (hY h p)) (pLev (hY h p)) j).2.2 i) else -1) ∧ (∀ j, j < 3 * p ∨ 3 * p + 3 ≤ j → z (m + 7) j = s (m + 7) j) ∧ (∀ b, b ≠ m → b ≠ m + 2 → b ≠ m + 7 → z b = s b) ∧ (∀ j, j ≠ 2 → j ≠ 3 → z m j = s m j)) (0) y (by omega) ⟨mque_keep hh.2.1 (fun j _ => by rw [v4 _ (by omega) (by omega)]) (v4 _ (by omega) (by omega)), v1, fun i hi => by rw [v2 i hi, if_pos hi, if_neg (by omega)], v3, fun b _ h2 h3 => v4 b h2 h3, fun j _ _ => by rw [v4 _ (by omega) (by omega)]⟩ (fun j z hj hjnv jh => ?_)
    obtain ⟨w1, w2, w3, w4, w5, w6⟩ := hjnv
    refine rIload_n dX7_fills_52 rfl ?_
    refine rIconst (v := (nI (3))) dX7_fills_53 (by decide) ?_
    refine r_icmp_ge (tgt := 69) dX7_fills_54 (by decide) (fun c_54 => ?_) (fun c_54 => ?_)
    · have c_54 : 3 ≤ j := (nI_leI (by omega) (by omega)).mp c_54
      have e : j = 3 := by omega
      subst e
      refine rAload_n dX7_fills_69 rfl ?_
      refine sGetR dX7_fills_70 fl_X7_31 hm.1 (by decide) rfl ?_
      refine rIload_n dX7_fills_73 rfl ?_
      refine rIconst (v := (nI (0))) dX7_fills_74 (by decide) ?_
      refine nZast dX7_fills_75 hm.2.2.2.2.2.2.2.2.1 (by omega) (by omega) rfl ?_
      exact sVret dX7_fills_76 rfl (Nat.le_of_ble_eq_true rfl) (Nat.le_of_ble_eq_true rfl) ⟨rfl, ⟨⟨by rw [sw_a (by omega), w6 1 (by omega) (by omega)]; exact hh.1, mque_keep w1 (fun j _ => by rw [sw_a (by omega)]) (sw_a (by omega)), fun k hk => by rw [sw_a (by omega)]; exact w2 k hk, fun i hi => (by
            show mpl _ m i (if i = p then wC (if p = p then _ else _) false else if i = p then _ else hY h i)
            by_cases e : i = p
            · subst e
              rw [if_pos rfl, if_pos rfl]
              obtain ⟨a1, a2, a3, a4, a5, a6, a7, a8⟩ := hh.2.2.2 i hi
              exact ⟨by rw [sw_a (by omega), w5 _ (by omega) (by omega) (by omega)]; exact a1, by rw [sw_a (by omega), w5 _ (by omega) (by omega) (by omega)]; exact a2, by rw [sw_a (by omega), w5 _ (by omega) (by omega) (by omega)]; exact a3, by rw [sw_a (by omega), w5 _ (by omega) (by omega) (by omega)]; exact a4, by rw [sw_s]; rfl, fun j hj => (by
                rw [sw_a (by omega), w3 j hj, if_pos hj]
                rfl), mrow_keep a7 (by rw [sw_a (by omega), w5 _ (by omega) (by omega) (by omega)]) (fun j _ => by rw [sw_a (by omega), w5 _ (by omega) (by omega) (by omega)]), mrow_keep a8 (by rw [sw_a (by omega), w5 _ (by omega) (by omega) (by omega)]) (fun j _ => by rw [sw_a (by omega), w5 _ (by omega) (by omega) (by omega)])⟩
            · rw [if_neg e, if_neg e]
              exact mpl_keep (hh.2.2.2 i hi) (hok.2.2.1 i hi) (fun a j h1 h2 h3 h4 h5 => (by
                by_cases e8 : a = 8
                · subst e8
                  rw [sw_i (by omega), w5 _ (by omega) (by omega) (by omega)]
                · rw [sw_a (by omega), w5 _ (by omega) (by omega) (by omega)])) (fun j h1 h2 => by rw [sw_a (by omega)]; exact w4 j (by omega)) (fun j _ _ => by rw [sw_a (by omega), w5 _ (by omega) (by omega) (by omega)]) (fun j _ _ => by rw [sw_a (by omega), w5 _ (by omega) (by omega) (by omega)]))⟩, by rw [sw_a (by omega)]; exact w6 0 (by omega) (by omega), fun b hb => by rw [sw_a (by omega)]; exact w5 b (by omega) (by omega) (by omega)⟩⟩
    · have c_54 : ¬ (3 ≤ j) := fun h => c_54 ((nI_leI (by omega) (by omega)).mpr h)
      have hd := headD_le (q := (fillS (hQ h) (hP h) (pShp (hY h p)) (pLev (hY h p)) j).1) (fun x hx => hok.1 x (fillS_q j hx))
      have hpo := poolOk_fillS (lev := pLev (hY h p)) (q := hQ h) (sh := pShp (hY h p)) hok.2.1 j
      refine rAload_n dX7_fills_57 rfl ?_
      refine rIload_n dX7_fills_58 rfl ?_
      refine rIload_n dX7_fills_59 rfl ?_
      refine sCallVv (M' := mX7_fillsSlot) (rm' := rmD 2 0 0) (As := [.int (nI p), .int (nI j)]) (rest := []) dX7_fills_60 rfl mk_X7_fillsSlot mi_X7_fillsSlot ll_X7_85 ⟨(Nat.le_of_ble_eq_true rfl), (Nat.le_of_ble_eq_true rfl)⟩ hm.1 (by decide) rfl rfl (Nat.le_of_ble_eq_true rfl) (Nat.le_of_ble_eq_true rfl) (c_X7_fillsSlot hm w1 w2 hpo (by omega) hd (by rw [w5 _ (by omega) (by omega) (by omega)]; exact yp.2.1) o3p hp (by omega) (by rw [w3 j (by omega), if_neg (by omega)])) rfl (Nat.le_of_ble_eq_true rfl) (fun s2 f => ?_)
      obtain ⟨f1, f2, f3, f4, f5, f6⟩ := f
      refine rIinc (v := (nI (j + 1))) dX7_fills_63 rfl (by first | exact nI_add _ _ | rfl) (by decide) ?_
      refine rGoto (tgt := 52) dX7_fills_66 (by decide) ?_
      exact jh (by omega) s2 ⟨f1, f2, fun i hi => (by
              simp only [fillS]
              by_cases e : i = j
              · subst e
                rw [if_pos (by omega), if_pos rfl]
                exact f3
              · rw [f4 _ (by omega), w3 i hi, if_neg e]
                by_cases e2 : i < j
                · rw [if_pos e2, if_pos (by omega)]
                · rw [if_neg e2, if_neg (by omega)]), fun i hi => by rw [f4 i (by omega)]; exact w4 i hi, fun b h0 h1 h2 => by rw [f5 b h0 h1 h2]; exact w5 b h0 h1 h2, fun i h0 h1 => by rw [f6 i h0 h1]; exact w6 i h0 h1⟩
  · have c_4 : ¬ (3 ≤ i) := fun h => c_4 ((nI_leI (by omega) (by omega)).mpr h)
    have hz := v2 i (by omega)
    rw [if_neg (by omega)] at hz
    have hpo := poolOk_fill1 (sh := pShp (hY h p)) hok.2.1 i
    cases hs : pShp (hY h p) i with
    | none =>
      rw [hs] at hz
      refine rAload_n dX7_fills_7 rfl ?_
      refine sGetR dX7_fills_8 fl_X7_28 hm.1 (by decide) rfl ?_
      refine rIconst (v := (nI (3))) dX7_fills_11 (by decide) ?_
      refine rIload_n dX7_fills_12 rfl ?_
      refine nImul dX7_fills_13 ?_
      refine rIload_n dX7_fills_14 rfl ?_
      refine nIadd dX7_fills_15 ?_
      refine nIald (v := (shI none)) dX7_fills_16 hm.2.2.2.2.2.2.2.1 (by omega) (by omega) (by rw [hz]) ?_
      refine rIstore_n dX7_fills_17 (by decide) ?_
      refine rIload_n dX7_fills_18 rfl ?_
      refine rIconst (v := (-1)) dX7_fills_19 (by decide) ?_
      refine r_icmp_eq (tgt := 33) dX7_fills_20 (by decide) (fun c_20 => ?_) (fun c_20 => ?_)
      · refine rAload_n dX7_fills_33 rfl ?_
        refine sGetR dX7_fills_34 fl_X7_28 hm.1 (by decide) rfl ?_
        refine rIconst (v := (nI (3))) dX7_fills_37 (by decide) ?_
        refine rIload_n dX7_fills_38 rfl ?_
        refine nImul dX7_fills_39 ?_
        refine rIload_n dX7_fills_40 rfl ?_
        refine nIadd dX7_fills_41 ?_
        refine rIconst (v := (-1)) dX7_fills_42 (by decide) ?_
        refine nIast dX7_fills_43 hm.2.2.2.2.2.2.2.1 (by omega) (by omega) ?_
        refine rIinc (v := (nI (i + 1))) dX7_fills_44 rfl (by first | exact nI_add _ _ | rfl) (by decide) ?_
        refine rGoto (tgt := 2) dX7_fills_47 (by decide) ?_
        refine rForget (L := [some (.ref (ad V m)), some (.int (nI p)), some (.int (nI (i + 1))), some (.int (shI none))]) (L' := [some (.ref (ad V m)), some (.int (nI p)), some (.int (nI (i + 1))), none]) (by exact ⟨rfl, ⟨rfl, ⟨rfl, trivial⟩⟩⟩) ?_
        exact ih (by omega) (sw y (m + 7) ((3 * p) + i) (-1)) ⟨fun k hk => by simp only [fill1, hs]; rw [sw_a (by omega)]; exact v1 k hk, fun j hj => (by
                by_cases e : j = i
                · subst e
                  rw [sw_s, if_pos (by omega)]
                · rw [sw_i (by omega), v2 j hj]
                  by_cases e2 : j < i
                  · rw [if_pos e2, if_pos (by omega)]
                  · rw [if_neg e2, if_neg (by omega)]), fun j hj => by rw [sw_i (by omega)]; exact v3 j hj, fun b h1 h2 => by rw [sw_a h2]; exact v4 b h1 h2⟩
      · exact absurd rfl c_20
    | some k =>
      have hk9 := o5p i (by omega) k hs
      rw [hs] at hz
      have hz : y (m + 7) (3 * p + i) = nI k := hz
      have hbk := hpo k hk9
      refine rAload_n dX7_fills_7 rfl ?_
      refine sGetR dX7_fills_8 fl_X7_28 hm.1 (by decide) rfl ?_
      refine rIconst (v := (nI (3))) dX7_fills_11 (by decide) ?_
      refine rIload_n dX7_fills_12 rfl ?_
      refine nImul dX7_fills_13 ?_
      refine rIload_n dX7_fills_14 rfl ?_
      refine nIadd dX7_fills_15 ?_
      refine nIald (v := (nI (k))) dX7_fills_16 hm.2.2.2.2.2.2.2.1 (by omega) (by omega) (by rw [hz]) ?_
      refine rIstore_n dX7_fills_17 (by decide) ?_
      refine rIload_n dX7_fills_18 rfl ?_
      refine rIconst (v := (-1)) dX7_fills_19 (by decide) ?_
      refine r_icmp_eq (tgt := 33) dX7_fills_20 (by decide) (fun c_20 => ?_) (fun c_20 => ?_)
      · exact absurd c_20 (nI_m1 (by omega))
      · refine rAload_n dX7_fills_23 rfl ?_
        refine sGetR dX7_fills_24 fl_X7_13 hm.1 (by decide) rfl ?_
        refine rIload_n dX7_fills_27 rfl ?_
        refine rDup2 dX7_fills_28 rfl rfl ?_
        refine nIald (v := (nI (fill1 (hP h) (pShp (hY h p)) i k))) dX7_fills_29 hm.2.2.1 (by omega) (by omega) (by rw [v1 k (by omega)]) ?_
        refine rIconst (v := (nI (1))) dX7_fills_30 (by decide) ?_
        refine nIadd dX7_fills_31 ?_
        refine nIast dX7_fills_32 hm.2.2.1 (by omega) (by omega) ?_
        refine rAload_n dX7_fills_33 rfl ?_
        refine sGetR dX7_fills_34 fl_X7_28 hm.1 (by decide) rfl ?_
        refine rIconst (v := (nI (3))) dX7_fills_37 (by decide) ?_
        refine rIload_n dX7_fills_38 rfl ?_
        refine nImul dX7_fills_39 ?_
        refine rIload_n dX7_fills_40 rfl ?_
        refine nIadd dX7_fills_41 ?_
        refine rIconst (v := (-1)) dX7_fills_42 (by decide) ?_
        refine nIast dX7_fills_43 hm.2.2.2.2.2.2.2.1 (by omega) (by omega) ?_
        refine rIinc (v := (nI (i + 1))) dX7_fills_44 rfl (by first | exact nI_add _ _ | rfl) (by decide) ?_
        refine rGoto (tgt := 2) dX7_fills_47 (by decide) ?_
        refine rForget (L := [some (.ref (ad V m)), some (.int (nI p)), some (.int (nI (i + 1))), some (.int (nI k))]) (L' := [some (.ref (ad V m)), some (.int (nI p)), some (.int (nI (i + 1))), none]) (by exact ⟨rfl, ⟨rfl, ⟨rfl, trivial⟩⟩⟩) ?_
        exact ih (by omega) (sw (sw y (m + 2) k (nI ((fill1 (hP h) (pShp (hY h p)) i k) + 1))) (m + 7) ((3 * p) + i) (-1)) ⟨fun k2 hk => (by
                simp only [fill1, hs]
                rw [sw_a (by omega)]
                show _ = nI (if k2 = k then _ + 1 else _)
                by_cases e : k2 = k
                · subst e
                  rw [sw_s, if_pos rfl]
                · rw [sw_i e, if_neg e]
                  exact v1 k2 hk), fun j hj => (by
                by_cases e : j = i
                · subst e
                  rw [sw_s, if_pos (by omega)]
                · rw [sw_i (by omega), sw_a (by omega), v2 j hj]
                  by_cases e2 : j < i
                  · rw [if_pos e2, if_pos (by omega)]
                  · rw [if_neg e2, if_neg (by omega)]), fun j hj => by rw [sw_i (by omega), sw_a (by omega)]; exact v3 j hj, fun b h1 h2 => by rw [sw_a h2, sw_a h1]; exact v4 b h1 h2⟩
set_option maxRecDepth 100000 in
set_option maxHeartbeats 4000000 in
theorem c_X7_roll {G : gG} {V : wV} {lo : Nat → Int64} {m : Nat} (hm : modAt V m) {s : sgT} {h : hT} (hh : modIs s m h) {B : Nat} (hok : hallOk B h) (hB : B ≤ 19000) {x : Int32} : CSi G V mX7_roll cX7_roll (rmD 9 0 0) [.ref (ad V m), .int x] s lo (fun v s' => mPost m s (fRoll h x) v s') (fun _ => False) := by
  refine CSi.of (L := [some (.ref (ad V m)), some (.int x)]) rfl (by decide +kernel) rfl (Nat.le_of_ble_eq_true rfl) rfl ?_
  refine rAload_n dX7_roll_0 rfl ?_
  refine rIload_n dX7_roll_1 rfl ?_
  refine sCallSp (M' := mX7_isPlayer) (rm' := rmD 2 0 0) (As := [.int x]) (rest := [.ref (ad V m)]) dX7_roll_2 rfl mk_X7_isPlayer ms_X7_isPlayer ll_X7_64 ⟨(Nat.le_of_ble_eq_true rfl), (Nat.le_of_ble_eq_true rfl)⟩ rfl (Nat.le_of_ble_eq_true rfl) (Nat.le_of_ble_eq_true rfl) (c_X7_isPlayer) rfl (Nat.le_of_ble_eq_true rfl) (fun wp ep => ?_)
  rcases ep with ⟨⟨p, hp, rfl⟩, rfl⟩ | ⟨np, rfl⟩
  · have ip : idx 4 (nI p) = some p := idx_nI hp (by decide)
    have yp : mpl s m p (hY h p) := hh.2.2.2 p hp
    have bdp : mrow s (m + 11) (m + 12) p 5 (pBrd (hY h p)) := yp.2.2.2.2.2.2.1
    have bnp : mrow s (m + 9) (m + 10) p 6 (pBen (hY h p)) := yp.2.2.2.2.2.2.2
    obtain ⟨o1p, o2p, o3p, o4p, o5p, o6p, o7p, o8p, o9p⟩ := hok.2.2.1 p hp
    refine r_if_ne (tgt := 12) dX7_roll_5 (by decide) (fun c_5 => ?_) (fun c_5 => ?_)
    · have c_5 : ¬ (1 = 0) := fun h => c_5 ((nz_eq (by omega)).mpr h)
      refine rAload_n dX7_roll_12 rfl ?_
      refine sGetR dX7_roll_13 fl_X7_16 hm.1 (by decide) rfl ?_
      refine rIload_n dX7_roll_16 rfl ?_
      refine nIald (v := (nI (pGold (hY h p)))) dX7_roll_17 hm.2.2.2.1 (by omega) (by omega) (by rw [yp.1]) ?_
      refine r_if_ne (tgt := 25) dX7_roll_18 (by decide) (fun c_18 => ?_) (fun c_18 => ?_)
      · have c_18 : ¬ ((pGold (hY h p)) = 0) := fun h => c_18 ((nz_eq (by omega)).mpr h)
        have hF : fRoll h (nI p) = (0, nI (pGold (hY h p) - 1), setY (fillH (setY h p (wG (hY h p) (pGold (hY h p) - 1))) p) p (wC (hY (fillH (setY h p (wG (hY h p) (pGold (hY h p) - 1))) p) p) false)) := by simp only [fRoll, ip, if_neg (show ¬ pGold (hY h p) < 1 by omega)]
        rw [hF]
        refine rIconst (v := (nI (0))) dX7_roll_25 (by decide) ?_
        refine sCallVi (M' := mX7_holds) (rm' := rmD 1 0 0) (As := [.int (nI 0)]) (rest := []) dX7_roll_26 rfl mk_X7_holds mi_X7_holds ll_X7_71 ⟨(Nat.le_of_ble_eq_true rfl), (Nat.le_of_ble_eq_true rfl)⟩ hm.1 (by decide) rfl rfl (Nat.le_of_ble_eq_true rfl) (Nat.le_of_ble_eq_true rfl) (c_X7_holds hm (by omega)) rfl (Nat.le_of_ble_eq_true rfl) (fun v26 t26 e26 => ?_)
        obtain ⟨rfl, rfl⟩ := e26
        refine tTop (w := (nI (1))) (if_pos rfl) ?_
        refine r_if_ne (tgt := 34) dX7_roll_29 (by decide) (fun c_29 => ?_) (fun c_29 => ?_)
        · have c_29 : ¬ (1 = 0) := fun h => c_29 ((nz_eq (by omega)).mpr h)
          refine rAload_n dX7_roll_34 rfl ?_
          refine sGetR dX7_roll_35 fl_X7_16 hm.1 (by decide) rfl ?_
          refine rIload_n dX7_roll_38 rfl ?_
          refine rDup2 dX7_roll_39 rfl rfl ?_
          refine nIald (v := (nI (pGold (hY h p)))) dX7_roll_40 hm.2.2.2.1 (by omega) (by omega) (by rw [sw_a (by omega), yp.1]) ?_
          refine rIconst (v := (nI (1))) dX7_roll_41 (by decide) ?_
          refine nIsub dX7_roll_42 (by omega) ?_
          refine nIast dX7_roll_43 hm.2.2.2.1 (by omega) (by omega) ?_
          refine rAload_n dX7_roll_44 rfl ?_
          refine rIload_n dX7_roll_45 rfl ?_
          have hh1 := modIs_P (x := wG (hY h p) (pGold (hY h p) - 1)) (modIs_thr (v := nI 0) hh) hok (mPF_1 (a := 3) (v := nI (pGold (hY h p) - 1)) (by decide) (by decide) (by decide) (by decide)) (mpl_G (mpl_thr yp))
          refine sCallVv (M' := mX7_fills) (rm' := rmD 3 0 0) (As := [.int (nI p)]) (rest := []) dX7_roll_46 rfl mk_X7_fills mi_X7_fills ll_X7_89 ⟨(Nat.le_of_ble_eq_true rfl), (Nat.le_of_ble_eq_true rfl)⟩ hm.1 (by decide) rfl rfl (Nat.le_of_ble_eq_true rfl) (Nat.le_of_ble_eq_true rfl) (c_X7_fills hm hh1 (hallOk_P hok (plOk_wG (hok.2.2.1 p hp) (by omega))) (by omega) hp) rfl (Nat.le_of_ble_eq_true rfl) (fun s2 e => ?_)
          obtain ⟨e1, e2, e3⟩ := e
          have y2 : s2 (m + 3) p = nI (pGold (hY (setY (fillH (setY h p (wG (hY h p) (pGold (hY h p) - 1))) p) p (wC (hY (fillH (setY h p (wG (hY h p) (pGold (hY h p) - 1))) p) p) false)) p)) := (e1.2.2.2 p hp).1
          have hg : pGold (hY (setY (fillH (setY h p (wG (hY h p) (pGold (hY h p) - 1))) p) p (wC (hY (fillH (setY h p (wG (hY h p) (pGold (hY h p) - 1))) p) p) false)) p) = pGold (hY h p) - 1 := by rw [setY_at]; show pGold (hY (fillH (setY h p (wG (hY h p) (pGold (hY h p) - 1))) p) p) = _; rw [fillH_gold, setY_at]; rfl
          rw [hg] at y2
          refine rAload_n dX7_roll_49 rfl ?_
          refine sGetR dX7_roll_50 fl_X7_16 hm.1 (by decide) rfl ?_
          refine rIload_n dX7_roll_53 rfl ?_
          refine nIald (v := (nI (pGold (hY h p) - 1))) dX7_roll_54 hm.2.2.2.1 (by omega) (by omega) (by rw [y2]) ?_
          exact sIret dX7_roll_55 rfl rfl (Nat.le_of_ble_eq_true rfl) (Nat.le_of_ble_eq_true rfl) ⟨_, rfl, ⟨by rw [e2, sw_a (by omega), sw_s], fun _ => rfl, e1, fun b hb => by rw [e3 b hb, sw_a (by omega), sw_a (by omega)]⟩⟩
        · have c_29 : 1 = 0 := (nz_eq (by omega)).mp c_29
          exact absurd c_29 (by omega)
      · have c_18 : (pGold (hY h p)) = 0 := (nz_eq (by omega)).mp c_18
        have hF : fRoll h (nI p) = (2, 0, h) := by simp only [fRoll, ip, if_pos (show pGold (hY h p) < 1 by omega)]
        rw [hF]
        refine rIconst (v := (nI (2))) dX7_roll_21 (by decide) ?_
        refine rGoto (tgt := 26) dX7_roll_22 (by decide) ?_
        refine sCallVi (M' := mX7_holds) (rm' := rmD 1 0 0) (As := [.int (nI 2)]) (rest := []) dX7_roll_26 rfl mk_X7_holds mi_X7_holds ll_X7_71 ⟨(Nat.le_of_ble_eq_true rfl), (Nat.le_of_ble_eq_true rfl)⟩ hm.1 (by decide) rfl rfl (Nat.le_of_ble_eq_true rfl) (Nat.le_of_ble_eq_true rfl) (c_X7_holds hm (by omega)) rfl (Nat.le_of_ble_eq_true rfl) (fun v26 t26 e26 => ?_)
        obtain ⟨rfl, rfl⟩ := e26
        refine tTop (w := (nI (0))) (if_neg (by decide)) ?_
        refine r_if_ne (tgt := 34) dX7_roll_29 (by decide) (fun c_29 => ?_) (fun c_29 => ?_)
        · have c_29 : ¬ (0 = 0) := fun h => c_29 ((nz_eq (by omega)).mpr h)
          exact absurd c_29 (by omega)
        · have c_29 : 0 = 0 := (nz_eq (by omega)).mp c_29
          refine rIconst (v := (nI (0))) dX7_roll_32 (by decide) ?_
          exact sIret dX7_roll_33 rfl rfl (Nat.le_of_ble_eq_true rfl) (Nat.le_of_ble_eq_true rfl) ⟨_, rfl, ⟨sw_s, fun e => absurd e (Nat.succ_ne_zero _), modIs_thr hh, fun b hb => sw_a (by omega)⟩⟩
    · have c_5 : 1 = 0 := (nz_eq (by omega)).mp c_5
      exact absurd c_5 (by omega)
  · have ip := idx_not np
    refine r_if_ne (tgt := 12) dX7_roll_5 (by decide) (fun c_5 => ?_) (fun c_5 => ?_)
    · have c_5 : ¬ (0 = 0) := fun h => c_5 ((nz_eq (by omega)).mpr h)
      exact absurd c_5 (by omega)
    · have c_5 : 0 = 0 := (nz_eq (by omega)).mp c_5
      have hF : fRoll h x = (1, 0, h) := by simp only [fRoll, ip]
      rw [hF]
      refine rIconst (v := (nI (1))) dX7_roll_8 (by decide) ?_
      refine rGoto (tgt := 26) dX7_roll_9 (by decide) ?_
      refine sCallVi (M' := mX7_holds) (rm' := rmD 1 0 0) (As := [.int (nI 1)]) (rest := []) dX7_roll_26 rfl mk_X7_holds mi_X7_holds ll_X7_71 ⟨(Nat.le_of_ble_eq_true rfl), (Nat.le_of_ble_eq_true rfl)⟩ hm.1 (by decide) rfl rfl (Nat.le_of_ble_eq_true rfl) (Nat.le_of_ble_eq_true rfl) (c_X7_holds hm (by omega)) rfl (Nat.le_of_ble_eq_true rfl) (fun v26 t26 e26 => ?_)
      obtain ⟨rfl, rfl⟩ := e26
      refine tTop (w := (nI (0))) (if_neg (by decide)) ?_
      refine r_if_ne (tgt := 34) dX7_roll_29 (by decide) (fun c_29 => ?_) (fun c_29 => ?_)
      · have c_29 : ¬ (0 = 0) := fun h => c_29 ((nz_eq (by omega)).mpr h)
        exact absurd c_29 (by omega)
      · have c_29 : 0 = 0 := (nz_eq (by omega)).mp c_29
        refine rIconst (v := (nI (0))) dX7_roll_32 (by decide) ?_
        exact sIret dX7_roll_33 rfl rfl (Nat.le_of_ble_eq_true rfl) (Nat.le_of_ble_eq_true rfl) ⟨_, rfl, ⟨sw_s, fun e => absurd e (Nat.succ_ne_zero _), modIs_thr hh, fun b hb => sw_a (by omega)⟩⟩
