/-! the methods of the hall: shops, units, fights, rounds (by program) -/
theorem hallOk_P {B p : Nat} {h : hT} {x : plT} (hk : hallOk B h) (hx : plOk x) : hallOk B (setY h p x) :=
  ⟨hk.1, hk.2.1, fun i hi => by
    show plOk (if i = p then x else hY h i)
    split
    · exact hx
    · exact hk.2.2.1 i hi, hk.2.2.2⟩
theorem hallOk_le {B C : Nat} {h : hT} (hk : hallOk B h) (hc : B ≤ C) : hallOk C h := ⟨hk.1, poolOk_le hk.2.1 hc, hk.2.2⟩
theorem plOk_wG {x : plT} {g : Nat} (h : plOk x) (hg : g ≤ 100) : plOk (wG x g) := ⟨hg, h.2⟩
theorem plOk_wK {x : plT} {k : Int32} (h : plOk x) : plOk (wK x k) := h
theorem plOk_wC {x : plT} {c : Bool} (h : plOk x) : plOk (wC x c) := h
theorem plOk_wS1 {x : plT} {sh : Nat → Option Nat} (h : plOk x) (hs : shOk sh) : plOk (wS1 x sh) := ⟨h.1, h.2.1, h.2.2.1, h.2.2.2.1, hs, h.2.2.2.2.2⟩
theorem plOk_wB {x : plT} {b : bbT} (h : plOk x) (h1 : okR b.1) (h2 : okR b.2) (h3 : b.1.length ≤ pLev x) (h4 : b.2.length ≤ 6) : plOk (wB x b) := ⟨h.1, h.2.1, h.2.2.1, h.2.2.2.1, h.2.2.2.2.1, h2, h1, h4, h3⟩
theorem plOk_win {x : plT} (h : plOk x) : plOk (winY x) := h
theorem plOk_lose {x : plT} {d : Nat} (h : plOk x) : plOk (loseY x d) := ⟨h.1, h.2.1, h.2.2.1, by have := h.2.2.2.1; show pHth x - min d (pHth x) ≤ 20; omega, h.2.2.2.2⟩
theorem shOk_fillS {q : List Nat} {pl : Nat → Nat} {sh : Nat → Option Nat} {lev : Nat} (h : shOk sh) : ∀ j, shOk (fillS q pl sh lev j).2.2
  | 0 => h
  | j + 1 => fun i hi k hk => by
    simp only [fillS] at hk
    split at hk
    · exact drawR_lt hk
    · exact shOk_fillS h j i hi k hk
theorem hallOk_fill {B p : Nat} {h : hT} (hk : hallOk B h) (hp : p < 4) : hallOk (B + 3) (fillH h p) :=
  ⟨fun x hx => hk.1 x (fillS_q 3 hx), poolOk_fillS hk.2.1 3, fun i hi => by
    show plOk (if i = p then _ else hY h i)
    split
    · exact plOk_wS1 (hk.2.2.1 p hp) (shOk_fillS (hk.2.2.1 p hp).2.2.2.2.1 3)
    · exact hk.2.2.1 i hi, hk.2.2.2⟩
theorem hallOk_pair {B p q : Nat} {h : hT} (hk : hallOk B h) (hp : p < 4) (hq : q < 4) : hallOk B (pairH h p q) := by
  unfold pairH
  split
  · exact hallOk_P (hallOk_P hk (plOk_win (hk.2.2.1 p hp))) (plOk_lose (hk.2.2.1 q hq))
  · split
    · exact hallOk_P (hallOk_P hk (plOk_win (hk.2.2.1 q hq))) (plOk_lose (hk.2.2.1 p hp))
    · exact hallOk_P (hallOk_P hk (plOk_wK (hk.2.2.1 p hp))) (plOk_wK (hk.2.2.1 q hq))
theorem hallOk_ea {B : Nat} {h : hT} (hk : hallOk B h) : ∀ i, i ≤ 4 → hallOk B (eaH h i)
  | 0, _ => hk
  | i + 1, hi => hallOk_P (hallOk_ea hk i (by omega)) (plOk_wG ((hallOk_ea hk i (by omega)).2.2.1 i (by omega)) (Nat.min_le_left _ _))
theorem hallOk_fu {B : Nat} {h : hT} (hk : hallOk B h) : ∀ i, i ≤ 4 → hallOk (B + 3 * i) (fuH h i)
  | 0, _ => hk
  | i + 1, hi => by
    have h1 := hallOk_fu hk i (by omega)
    have h2 : hallOk (B + 3 * (i + 1)) (if pLck (hY (fuH h i) i) then fuH h i else fillH (fuH h i) i) := by
      split
      · exact hallOk_le h1 (by omega)
      · exact hallOk_le (hallOk_fill h1 (by omega)) (by omega)
    exact hallOk_P h2 (plOk_wC (h2.2.2.1 i (by omega)))
theorem hallIs_ext {s : sgT} {o : Nat} {h h' : hT} (hh : hallIs s o h) (h0 : hQ h = hQ h') (h1 : hP h = hP h') (h2 : ∀ p, p < 4 → hY h p = hY h' p) (h3 : hR h = hR h') : hallIs s o h' := by
  refine ⟨h0 ▸ hh.1, h1 ▸ hh.2.1, fun p hp => h2 p hp ▸ hh.2.2.1 p hp, h3 ▸ hh.2.2.2⟩
theorem hallIs_pool {s s' : sgT} {o : Nat} {h : hT} (hh : hallIs s o h) {pl : Nat → Nat} (hx : poolIs s' (o + 2 + 1) pl) (hb : ∀ b, b ≠ o + 2 + 1 → s' b = s b) : hallIs s' o (hQ h, pl, h.2.2) :=
  ⟨numsIs_keep hh.1 (hb _ (by omega)) (hb _ (by omega)), hx, fun p hp => plIs_keep (hh.2.2.1 p hp) (fun b _ _ => hb b (by omega)), by rw [hb _ (by omega)]; exact hh.2.2.2⟩
theorem cw_le {u : Nat} (h : okU u) : cst (u / 10) * wor (u % 10) ≤ 27 := by
  have h1 : cst (u / 10) ≤ 3 := by
    have := h.1
    unfold cst
    omega
  have h2 : wor (u % 10) ≤ 9 := by
    unfold wor
    split
    · omega
    · split <;> omega
  exact Nat.mul_le_mul h1 h2
theorem okR_app {l : List Nat} {u : Nat} (h : okR l) (hu : okU u) : okR (l ++ [u]) := by
  rw [okR_mem] at h ⊢
  intro w hw
  rcases List.mem_append.mp hw with q | q
  · exact h w q
  · rw [List.mem_singleton.mp q]
    exact hu
theorem okR_era {l : List Nat} {p : Nat} (h : okR l) : okR (l.eraseIdx p) := by
  rw [okR_mem] at h ⊢
  exact fun w hw => h w (List.mem_of_mem_eraseIdx hw)
theorem era_len {l : List Nat} {p : Nat} (h : p < l.length) : (l.eraseIdx p).length + 1 = l.length := by
  rw [List.length_eraseIdx_of_lt h]
  omega
theorem setY_at {h : hT} {p : Nat} {x : plT} : hY (setY h p x) p = x := if_pos rfl
theorem setY_ne {h : hT} {p q : Nat} {x : plT} (e : q ≠ p) : hY (setY h p x) q = hY h q := if_neg e
theorem fillH_gold {h : hT} {p : Nat} : pGold (hY (fillH h p) p) = pGold (hY h p) := by
  show pGold (if p = p then _ else _) = _
  rw [if_pos rfl]
  rfl
theorem hExc_no {xs : List String} {h' : hT} {r : rT} (e : r.1 = 0) : ∀ E, ¬ hExc xs h' r E := by
  rintro E ⟨-, k, hk, -⟩
  omega
theorem hallR_pair {h : hT} {p q : Nat} : hR (pairH h p q) = hR h := by
  unfold pairH
  split
  · rfl
  · split <;> rfl
theorem hallR_rd {h : hT} : hR (rdH h) = hR h := by
  unfold rdH prs
  split
  · rw [hallR_pair, hallR_pair]
  · split <;> rw [hallR_pair, hallR_pair]
theorem hallR_ea {h : hT} : ∀ i, hR (eaH h i) = hR h
  | 0 => rfl
  | i + 1 => hallR_ea i
theorem hallR_fu {h : hT} : ∀ i, hR (fuH h i) = hR h
  | 0 => rfl
  | i + 1 => by
    show hR (if pLck (hY (fuH h i) i) then fuH h i else fillH (fuH h i) i) = hR h
    split
    · exact hallR_fu i
    · exact hallR_fu i
theorem hallRr {B : Nat} {h : hT} (hk : hallOk B h) (hr : hR h + 1 ≤ 200) : hallOk B (hQ h, hP h, hY h, hR h + 1) := ⟨hk.1, hk.2.1, hk.2.2.1, hr⟩
set_option maxRecDepth 100000 in
set_option maxHeartbeats 4000000 in
theorem c_X6_fillShop {G : gG} {V : wV} {lo : Nat → Int64} {o : Nat} (ho : hallAt V o) {s : sgT} {h : hT} (hh : hallIs s o h) {B : Nat} (hok : hallOk B h) (hB : B ≤ 19500) {P p : Nat} (hp : p < 4) (eP : P = o + 15 + 8 * p)  : CSv G V mX6_fillShop cX6_fillShop (rmD 4 0 0) [.ref (ad V o), .ref (ad V P)] s lo (fun s' => hallIs s' o (fillH h p) ∧ hFr s s' o) (fun _ => False) := by
  refine CSv.of (L := [some (.ref (ad V o)), some (.ref (ad V P)), none]) rfl (by decide +kernel) rfl (Nat.le_of_ble_eq_true rfl) rfl ?_
  have aP : plAt V P := eP ▸ ho.2.2.2.2.2.2.2 p hp
  have yP : plIs s P (hY h p) := eP ▸ hh.2.2.1 p hp
  obtain ⟨o1, o2, o3, o4, o5, o6, o7, o8, o9⟩ := hok.2.2.1 p hp
  refine rIconst (v := (nI (0))) dX6_fillShop_0 (by decide) ?_
  refine rIstore_n dX6_fillShop_1 (by decide) ?_
  refine loopW (σ := sgT) (3) (fun i y => [some (.ref (ad V o)), some (.ref (ad V P)), some (.int (nI i))]) (fun i y => y) (fun i y => poolIs y (o + 2 + 1) (fill1 (hP h) (pShp (hY h p)) i) ∧ (∀ b, b ≠ o + 2 + 1 → y b = s b)) (0) s (by omega) ⟨hh.2.1, fun _ _ => rfl⟩ (fun i y hi hinv ih => ?_)
  obtain ⟨v1, v2⟩ := hinv
  refine rIload_n dX6_fillShop_2 rfl ?_
  refine rIconst (v := (nI (3))) dX6_fillShop_3 (by decide) ?_
  refine r_icmp_ge (tgt := 27) dX6_fillShop_4 (by decide) (fun c_4 => ?_) (fun c_4 => ?_)
  · have c_4 : 3 ≤ i := (nI_leI (by omega) (by omega)).mp c_4
    have e : i = 3 := by omega
    subst e
    refine rIconst (v := (nI (0))) dX6_fillShop_27 (by decide) ?_
    refine rIstore_n dX6_fillShop_28 (by decide) ?_
    refine loopW (σ := sgT) (3) (fun j z => [some (.ref (ad V o)), some (.ref (ad V P)), some (.int (nI j))]) (fun j z => z) (fun j z => numsIs z (o + 4) (fillS (hQ h) (hP h) (pShp (hY h p)) (pLev (hY h p)) j).1 ∧ poolIs z (o + 2 + 1) (fillS (hQ h) (hP h) (pShp (hY h p)) (pLev (hY h p)) j).2.1 ∧ (∀ i, i < 3 → z (P + 1) i = shI ((fillS (hQ h) (hP h) (pShp (hY h p)) (pLev (hY h p)) j).2.2 i)) ∧ (∀ b, b ≠ o + 4 → b ≠ o + 4 + 1 → b ≠ o + 2 + 1 → b ≠ P + 1 → z b = s b)) (0) y (by omega) ⟨numsIs_keep hh.1 (v2 _ (by omega)) (v2 _ (by omega)), v1, fun i hi => by rw [v2 _ (by omega)]; exact yP.2.2.2.2.2.1 i hi, fun b _ _ h3 _ => v2 b h3⟩ (fun j z hj hjnv jh => ?_)
    obtain ⟨w1, w2, w3, w4⟩ := hjnv
    refine rIload_n dX6_fillShop_29 rfl ?_
    refine rIconst (v := (nI (3))) dX6_fillShop_30 (by decide) ?_
    refine r_icmp_ge (tgt := 66) dX6_fillShop_31 (by decide) (fun c_31 => ?_) (fun c_31 => ?_)
    · have c_31 : 3 ≤ j := (nI_leI (by omega) (by omega)).mp c_31
      have e : j = 3 := by omega
      subst e
      exact sVret dX6_fillShop_66 rfl (Nat.le_of_ble_eq_true rfl) (Nat.le_of_ble_eq_true rfl) ⟨rfl, ⟨⟨w1, w2, fun i hi => (by
            show plIs z (o + 15 + 8 * i) (if i = p then _ else hY h i)
            by_cases e : i = p
            · subst e
              rw [if_pos rfl, ← eP]
              exact plIs_wS1 yP w3 (fun b h1 h2 h3 => w4 b (by omega) (by omega) (by omega) h1)
            · rw [if_neg e]
              exact plIs_keep (hh.2.2.1 i hi) (fun b h1 h2 => w4 b (by omega) (by omega) (by omega) (by omega))), by rw [w4 _ (by omega) (by omega) (by omega) (by omega)]; exact hh.2.2.2⟩, fun b hb => w4 b (by omega) (by omega) (by omega) (by omega)⟩⟩
    · have c_31 : ¬ (3 ≤ j) := fun h => c_31 ((nI_leI (by omega) (by omega)).mpr h)
      have hd := headD_le (q := (fillS (hQ h) (hP h) (pShp (hY h p)) (pLev (hY h p)) j).1) (fun x hx => hok.1 x (fillS_q j hx))
      have hpo := poolOk_fillS (lev := pLev (hY h p)) (q := hQ h) (sh := pShp (hY h p)) hok.2.1 j
      refine rAload_n dX6_fillShop_34 rfl ?_
      refine sGetR dX6_fillShop_35 fl_X6_85 aP.1 (by decide) rfl ?_
      refine rIload_n dX6_fillShop_38 rfl ?_
      refine rAload_n dX6_fillShop_39 rfl ?_
      refine sGetR dX6_fillShop_40 fl_X6_18 ho.1 (by decide) rfl ?_
      refine rAload_n dX6_fillShop_43 rfl ?_
      refine sGetR dX6_fillShop_44 fl_X6_25 ho.1 (by decide) rfl ?_
      refine sCallVi (M' := mX1_take) (rm' := rmD 1 0 0) (As := []) (rest := [.ref (ad V (o + 2)), .int (nI j), .ref (ad V (P + 1))]) dX6_fillShop_47 rfl mk_X1_take mi_X1_take ll_X6_227 ⟨(Nat.le_of_ble_eq_true rfl), (Nat.le_of_ble_eq_true rfl)⟩ ho.2.2.2.2.1 (by decide) rfl rfl (Nat.le_of_ble_eq_true rfl) (Nat.le_of_ble_eq_true rfl) (c_X1_take ⟨ho.2.2.2.2.1, ho.2.2.2.2.2.1⟩ w1) rfl (Nat.le_of_ble_eq_true rfl) (fun v s1 e => ?_)
      obtain ⟨e1, e2, e3⟩ := e
      refine tTop (w := (nI ((fillS (hQ h) (hP h) (pShp (hY h p)) (pLev (hY h p)) j).1.headD 0))) e3 ?_
      refine rAload_n dX6_fillShop_50 rfl ?_
      refine sGetI (x := (nI (pLev (hY h p)))) dX6_fillShop_51 fl_X6_76 aP.1 (by decide) rfl (by rw [e2 _ (by omega) (by omega), w4 _ (by omega) (by omega) (by omega) (by omega), yP.2.1]) ?_
      refine rIconst (v := (nI (1))) dX6_fillShop_54 (by decide) ?_
      refine nIadd dX6_fillShop_55 ?_
      refine sCallVi (M' := mX3_draw) (rm' := rmD 3 0 0) (As := [.int (nI ((fillS (hQ h) (hP h) (pShp (hY h p)) (pLev (hY h p)) j).1.headD 0)), .int (nI ((pLev (hY h p)) + 1))]) (rest := [.int (nI j), .ref (ad V (P + 1))]) dX6_fillShop_56 rfl mk_X3_draw mi_X3_draw ll_X6_230 ⟨(Nat.le_of_ble_eq_true rfl), (Nat.le_of_ble_eq_true rfl)⟩ ho.2.2.1 (by decide) rfl rfl (Nat.le_of_ble_eq_true rfl) (Nat.le_of_ble_eq_true rfl) (c_X3_draw ⟨ho.2.2.1, ho.2.2.2.1⟩ (poolIs_keep w2 (e2 _ (by omega) (by omega))) hpo (by omega) (by omega) (by omega)) rfl (Nat.le_of_ble_eq_true rfl) (fun v2 s2 f => ?_)
      obtain ⟨f1, f2, f3⟩ := f
      refine tTop (w := (shI (drawR (fillS (hQ h) (hP h) (pShp (hY h p)) (pLev (hY h p)) j).2.1 ((fillS (hQ h) (hP h) (pShp (hY h p)) (pLev (hY h p)) j).1.headD 0) (pLev (hY h p) + 1)))) f3 ?_
      refine nIast dX6_fillShop_59 aP.2.1 (by omega) (by omega) ?_
      refine rIinc (v := (nI (j + 1))) dX6_fillShop_60 rfl (by first | exact nI_add _ _ | rfl) (by decide) ?_
      refine rGoto (tgt := 29) dX6_fillShop_63 (by decide) ?_
      exact jh (by omega) (sw s2 (P + 1) j (shI (drawR (fillS (hQ h) (hP h) (pShp (hY h p)) (pLev (hY h p)) j).2.1 ((fillS (hQ h) (hP h) (pShp (hY h p)) (pLev (hY h p)) j).1.headD 0) (pLev (hY h p) + 1)))) ⟨numsIs_keep e1 (by rw [sw_a (by omega)]; exact f2 _ (by omega)) (by rw [sw_a (by omega)]; exact f2 _ (by omega)), poolIs_keep f1 (sw_a (by omega)), fun i hi => (by
              simp only [fillS]
              by_cases e : i = j
              · subst e
                rw [sw_s, if_pos rfl]
              · rw [sw_i e, if_neg e, f2 _ (by omega), e2 _ (by omega) (by omega)]
                exact w3 i hi), fun b h1 h2 h3 h4 => (by rw [sw_a h4, f2 b h3, e2 b h1 h2, w4 b h1 h2 h3 h4])⟩
  · have c_4 : ¬ (3 ≤ i) := fun h => c_4 ((nI_leI (by omega) (by omega)).mpr h)
    cases hs : pShp (hY h p) i with
    | none =>
      have hz : y (P + 1) i = -1 := by rw [v2 _ (by omega), yP.2.2.2.2.2.1 i (by omega), hs]; rfl
      refine rAload_n dX6_fillShop_7 rfl ?_
      refine sGetR dX6_fillShop_8 fl_X6_18 ho.1 (by decide) rfl ?_
      refine rAload_n dX6_fillShop_11 rfl ?_
      refine sGetR dX6_fillShop_12 fl_X6_85 aP.1 (by decide) rfl ?_
      refine rIload_n dX6_fillShop_15 rfl ?_
      refine nIald (v := (-1)) dX6_fillShop_16 aP.2.1 (by omega) (by omega) (by rw [hz]) ?_
      refine rIconst (v := (nI (1))) dX6_fillShop_17 (by decide) ?_
      refine sCallVu (M' := mX3_putBack) (rm' := rmD 1 0 0) (As := [.int (-1), .int (nI 1)]) (rest := []) dX6_fillShop_18 rfl mk_X3_putBack mi_X3_putBack ll_X6_128 ⟨(Nat.le_of_ble_eq_true rfl), (Nat.le_of_ble_eq_true rfl)⟩ ho.2.2.1 (by decide) rfl rfl (Nat.le_of_ble_eq_true rfl) (Nat.le_of_ble_eq_true rfl) (c_X3_putBack0) rfl (Nat.le_of_ble_eq_true rfl) (fun h => ?_)
      refine rIinc (v := (nI (i + 1))) dX6_fillShop_21 rfl (by first | exact nI_add _ _ | rfl) (by decide) ?_
      refine rGoto (tgt := 2) dX6_fillShop_24 (by decide) ?_
      exact ih (by omega) y ⟨by simp only [fill1, hs]; exact v1, v2⟩
    | some k =>
      have hk9 := o5 i (by omega) k hs
      have hz : y (P + 1) i = nI k := by rw [v2 _ (by omega), yP.2.2.2.2.2.1 i (by omega), hs]; rfl
      refine rAload_n dX6_fillShop_7 rfl ?_
      refine sGetR dX6_fillShop_8 fl_X6_18 ho.1 (by decide) rfl ?_
      refine rAload_n dX6_fillShop_11 rfl ?_
      refine sGetR dX6_fillShop_12 fl_X6_85 aP.1 (by decide) rfl ?_
      refine rIload_n dX6_fillShop_15 rfl ?_
      refine nIald (v := (nI (k))) dX6_fillShop_16 aP.2.1 (by omega) (by omega) (by rw [hz]) ?_
      refine rIconst (v := (nI (1))) dX6_fillShop_17 (by decide) ?_
      refine sCallVv (M' := mX3_putBack) (rm' := rmD 1 0 0) (As := [.int (nI k), .int (nI 1)]) (rest := []) dX6_fillShop_18 rfl mk_X3_putBack mi_X3_putBack ll_X6_128 ⟨(Nat.le_of_ble_eq_true rfl), (Nat.le_of_ble_eq_true rfl)⟩ ho.2.2.1 (by decide) rfl rfl (Nat.le_of_ble_eq_true rfl) (Nat.le_of_ble_eq_true rfl) (c_X3_putBack ⟨ho.2.2.1, ho.2.2.2.1⟩ v1 (by omega)) rfl (Nat.le_of_ble_eq_true rfl) (fun s1 e => ?_)
      obtain ⟨e1, e2⟩ := e
      refine rIinc (v := (nI (i + 1))) dX6_fillShop_21 rfl (by first | exact nI_add _ _ | rfl) (by decide) ?_
      refine rGoto (tgt := 2) dX6_fillShop_24 (by decide) ?_
      exact ih (by omega) s1 ⟨by simp only [fill1, hs]; exact e1, fun b hb => by rw [e2 b hb, v2 b hb]⟩
set_option maxRecDepth 100000 in
set_option maxHeartbeats 4000000 in
theorem c_X6_roll {G : gG} {V : wV} {lo : Nat → Int64} {o : Nat} (ho : hallAt V o) {s : sgT} {h : hT} (hh : hallIs s o h) {B : Nat} (hok : hallOk B h) (hB : B ≤ 19000) (hfl : (gl G).stackTraces = false) {x : Int32} : CSi G V mX6_roll cX6_roll (rmD 9 9 54) [.ref (ad V o), .int x] s lo (fun v s' => hPost o s (fRoll h x) v s') (hExc [xIO, xIS] h (fRoll h x)) := by
  refine CSi.of (L := [some (.ref (ad V o)), some (.int x), none]) rfl (by decide +kernel) rfl (Nat.le_of_ble_eq_true rfl) rfl ?_
  refine rAload_n dX6_roll_0 rfl ?_
  refine rIload_n dX6_roll_1 rfl ?_
  refine sCallVXq (M' := mX6_playerOf) (rm' := rmD 6 1 6) (As := [.int x]) (rest := []) rfl dX6_roll_2 rfl mk_X6_playerOf mi_X6_playerOf ll_X6_57 ⟨(Nat.le_of_ble_eq_true rfl), (Nat.le_of_ble_eq_true rfl)⟩ ho.1 (by decide) rfl rfl (Nat.le_of_ble_eq_true rfl) (Nat.le_of_ble_eq_true rfl) (c_X6_playerOf ho hfl) rfl (Nat.le_of_ble_eq_true rfl) rfl (by rintro E ⟨rfl, e⟩; refine ⟨?_, 0, ?_, rfl⟩ <;> simp only [fRoll, e]) (fun P qp => ?_)
  obtain ⟨p, hp, rfl, eP⟩ := qp
  have ip : idx 4 (nI p) = some p := idx_nI hp (by decide)
  have aP : plAt V P := eP ▸ ho.2.2.2.2.2.2.2 p hp
  have yP : plIs s P (hY h p) := eP ▸ hh.2.2.1 p hp
  obtain ⟨o1, o2, o3, o4, o5, o6, o7, o8, o9⟩ := hok.2.2.1 p hp
  refine rAstore_n dX6_roll_5 (by decide) ?_
  refine rAload_n dX6_roll_6 rfl ?_
  refine sGetI (x := (nI (pGold (hY h p)))) dX6_roll_7 fl_X6_61 aP.1 (by decide) rfl (by rw [yP.1]) ?_
  refine rIconst (v := (nI (1))) dX6_roll_10 (by decide) ?_
  refine r_icmp_ge (tgt := 24) dX6_roll_11 (by decide) (fun c_11 => ?_) (fun c_11 => ?_)
  · have c_11 : 1 ≤ (pGold (hY h p)) := (nI_leI (by omega) (by omega)).mp c_11
    have hF : fRoll h (nI p) = (0, nI (pGold (hY h p) - 1), setY (fillH (setY h p (wG (hY h p) (pGold (hY h p) - 1))) p) p (wC (hY (fillH (setY h p (wG (hY h p) (pGold (hY h p) - 1))) p) p) false)) := by simp only [fRoll, ip, if_neg (show ¬ pGold (hY h p) < 1 by omega)]
    rw [hF]
    refine rAload_n dX6_roll_24 rfl ?_
    refine rDup dX6_roll_25 rfl ?_
    refine sGetI (x := (nI (pGold (hY h p)))) dX6_roll_26 fl_X6_61 aP.1 (by decide) rfl (by rw [yP.1]) ?_
    refine rIconst (v := (nI (1))) dX6_roll_29 (by decide) ?_
    refine nIsub dX6_roll_30 (by omega) ?_
    refine sPutI dX6_roll_31 fl_X6_61 ft_X2 rfl aP.1 (by decide) rfl rfl rfl ?_
    refine rAload_n dX6_roll_34 rfl ?_
    refine rAload_n dX6_roll_35 rfl ?_
    have h1 := hallIs_P (x := wG (hY h p) (pGold (hY h p) - 1)) (s' := (sw s P 0 (nI ((pGold (hY h p)) - 1)))) hh hp (eP ▸ plIs_wG yP) (fun b hb => sw_a (by omega))
    refine sCallVv (M' := mX6_fillShop) (rm' := rmD 4 0 0) (As := [.ref (ad V P)]) (rest := []) dX6_roll_36 rfl mk_X6_fillShop mi_X6_fillShop ll_X6_66 ⟨(Nat.le_of_ble_eq_true rfl), (Nat.le_of_ble_eq_true rfl)⟩ ho.1 (by decide) rfl rfl (Nat.le_of_ble_eq_true rfl) (Nat.le_of_ble_eq_true rfl) (c_X6_fillShop ho h1 (hallOk_P hok (plOk_wG (hok.2.2.1 p hp) (by omega))) (by omega) hp eP) rfl (Nat.le_of_ble_eq_true rfl) (fun s2 e => ?_)
    obtain ⟨e1, e2⟩ := e
    have y2 : plIs s2 P (hY (fillH (setY h p (wG (hY h p) (pGold (hY h p) - 1))) p) p) := eP ▸ e1.2.2.1 p hp
    have hg : pGold (hY (fillH (setY h p (wG (hY h p) (pGold (hY h p) - 1))) p) p) = pGold (hY h p) - 1 := by rw [fillH_gold, setY_at]; rfl
    have y3 : s2 P 0 = nI (pGold (hY h p) - 1) := by rw [← hg]; exact y2.1
    refine rAload_n dX6_roll_39 rfl ?_
    refine rIconst (v := (nI (0))) dX6_roll_40 (by decide) ?_
    refine sPutI dX6_roll_41 fl_X6_70 ft_X2 rfl aP.1 (by decide) rfl rfl rfl ?_
    refine rAload_n dX6_roll_44 rfl ?_
    refine sGetI (x := (nI (pGold (hY h p) - 1))) dX6_roll_45 fl_X6_61 aP.1 (by decide) rfl (by rw [sw_i (by decide), y3]) ?_
    exact sIret dX6_roll_48 rfl rfl (Nat.le_of_ble_eq_true rfl) (Nat.le_of_ble_eq_true rfl) ⟨_, rfl, ⟨rfl, rfl, hallIs_P e1 hp (eP ▸ plIs_wC y2 rfl) (fun b hb => sw_a (by omega)), fun b hb => by rw [sw_a (by omega), e2 b hb, sw_a (by omega)]⟩⟩
  · have c_11 : ¬ (1 ≤ (pGold (hY h p))) := fun h => c_11 ((nI_leI (by omega) (by omega)).mpr h)
    exact sThrow hfl rfl xl_X6_64 dX6_roll_14 dX6_roll_17 dX6_roll_18 dX6_roll_20 dX6_roll_23 (Nat.le_of_ble_eq_true rfl) (Nat.le_of_ble_eq_true rfl) (Nat.le_of_ble_eq_true rfl) (Nat.le_of_ble_eq_true rfl) rfl ⟨by simp only [fRoll, ip, if_pos (show pGold (hY h p) < 1 by omega)], 1, by simp only [fRoll, ip, if_pos (show pGold (hY h p) < 1 by omega)], rfl⟩
set_option maxRecDepth 100000 in
set_option maxHeartbeats 4000000 in
theorem c_X6_sell {G : gG} {V : wV} {lo : Nat → Int64} {o : Nat} (ho : hallAt V o) {s : sgT} {h : hT} (hh : hallIs s o h) {B : Nat} (hok : hallOk B h) (hB : B ≤ 19000) (hfl : (gl G).stackTraces = false) {x y : Int32} : CSi G V mX6_sell cX6_sell (rmD 9 9 54) [.ref (ad V o), .int x, .int y] s lo (fun v s' => hPost o s (fSell h x y) v s') (hExc [xIO] h (fSell h x y)) := by
  refine CSi.of (L := [some (.ref (ad V o)), some (.int x), some (.int y), none, none, none]) rfl (by decide +kernel) rfl (Nat.le_of_ble_eq_true rfl) rfl ?_
  refine rAload_n dX6_sell_0 rfl ?_
  refine rIload_n dX6_sell_1 rfl ?_
  refine sCallVXq (M' := mX6_playerOf) (rm' := rmD 6 1 6) (As := [.int x]) (rest := []) rfl dX6_sell_2 rfl mk_X6_playerOf mi_X6_playerOf ll_X6_57 ⟨(Nat.le_of_ble_eq_true rfl), (Nat.le_of_ble_eq_true rfl)⟩ ho.1 (by decide) rfl rfl (Nat.le_of_ble_eq_true rfl) (Nat.le_of_ble_eq_true rfl) (c_X6_playerOf ho hfl) rfl (Nat.le_of_ble_eq_true rfl) rfl (by rintro E ⟨rfl, e⟩; refine ⟨?_, 0, ?_, rfl⟩ <;> simp only [fSell, e]) (fun P qp => ?_)
  obtain ⟨p, hp, rfl, eP⟩ := qp
  have ip : idx 4 (nI p) = some p := idx_nI hp (by decide)
  have aP : plAt V P := eP ▸ ho.2.2.2.2.2.2.2 p hp
  have yP : plIs s P (hY h p) := eP ▸ hh.2.2.1 p hp
  obtain ⟨o1, o2, o3, o4, o5, o6, o7, o8, o9⟩ := hok.2.2.1 p hp
  refine rAstore_n dX6_sell_5 (by decide) ?_
  refine rAload_n dX6_sell_6 rfl ?_
  refine sGetR dX6_sell_7 fl_X6_98 aP.1 (by decide) rfl ?_
  refine rIload_n dX6_sell_10 rfl ?_
  refine sCallSXu (M' := mX6_requireUnit) (rm' := rmD 6 1 6) (As := [.ref (ad V (P + 2)), .int y]) (rest := []) rfl dX6_sell_11 rfl mk_X6_requireUnit ms_X6_requireUnit ll_X6_112 ⟨(Nat.le_of_ble_eq_true rfl), (Nat.le_of_ble_eq_true rfl)⟩ rfl (Nat.le_of_ble_eq_true rfl) (Nat.le_of_ble_eq_true rfl) (c_X6_requireUnit aP.2.2.1 (by omega) (by omega) yP.2.2.2.2.2.2.1 o6 hfl) rfl (Nat.le_of_ble_eq_true rfl) rfl (by rintro E ⟨rfl, e⟩; refine ⟨?_, 0, ?_, rfl⟩ <;> simp only [fSell, ip, e]) (fun qj => ?_)
  obtain ⟨j, hj, rfl⟩ := qj
  have ij : idx (pBen (hY h p)).length (nI j) = some j := idx_nI hj (by omega)
  obtain ⟨u, hu⟩ : ∃ u, u = (pBen (hY h p)).getD j 0 := ⟨_, rfl⟩
  have hu9 : okU u := hu ▸ o6 j hj
  have hcw := cw_le hu9
  have hu0 := hu9.1
  have q1 := (yP.2.2.2.2.2.2.1.2 j hj).1
  have q2 := (yP.2.2.2.2.2.2.1.2 j hj).2
  rw [← hu] at q1 q2
  have hF : fSell h (nI p) (nI j) = (0, nI (min 100 (pGold (hY h p) + cst (u / 10) * wor (u % 10))), hQ h, incP (hP h) (u / 10) (wor (u % 10)), (setY h p (wG (wB (hY h p) (pBrd (hY h p), (pBen (hY h p)).eraseIdx j)) (min 100 (pGold (hY h p) + cst (u / 10) * wor (u % 10))))).2.2) := by simp only [fSell, ip, ij, ← hu]
  rw [hF]
  refine rAload_n dX6_sell_14 rfl ?_
  refine sGetR dX6_sell_15 fl_X6_98 aP.1 (by decide) rfl ?_
  refine sGetR dX6_sell_18 fl_X6_116 aP.2.2.1.1 (by decide) rfl ?_
  refine rIload_n dX6_sell_21 rfl ?_
  refine nIald (v := (nI (u / 10))) dX6_sell_22 aP.2.2.1.2.1 (by omega) (by omega) (by rw [q1]) ?_
  refine rIstore dX6_sell_23 (by decide) ?_
  refine rAload_n dX6_sell_25 rfl ?_
  refine sGetR dX6_sell_26 fl_X6_98 aP.1 (by decide) rfl ?_
  refine sGetR dX6_sell_29 fl_X6_119 aP.2.2.1.1 (by decide) rfl ?_
  refine rIload_n dX6_sell_32 rfl ?_
  refine nIald (v := (nI (u % 10))) dX6_sell_33 aP.2.2.1.2.2 (by omega) (by omega) (by rw [q2]) ?_
  refine sCallSp (M' := mX6_unitsFor) (rm' := rmD 1 0 0) (As := [.int (nI (u % 10))]) (rest := []) dX6_sell_34 rfl mk_X6_unitsFor ms_X6_unitsFor ll_X6_122 ⟨(Nat.le_of_ble_eq_true rfl), (Nat.le_of_ble_eq_true rfl)⟩ rfl (Nat.le_of_ble_eq_true rfl) (Nat.le_of_ble_eq_true rfl) (c_X6_unitsFor (by omega)) rfl (Nat.le_of_ble_eq_true rfl) (fun v e => ?_)
  refine tTop (w := (nI (wor (u % 10)))) e ?_
  refine rIstore dX6_sell_37 (by decide) ?_
  refine rAload_n dX6_sell_39 rfl ?_
  refine sGetR dX6_sell_40 fl_X6_98 aP.1 (by decide) rfl ?_
  refine rIload_n dX6_sell_43 rfl ?_
  refine sCallVv (M' := mX5_removeAt) (rm' := rmD 2 0 0) (As := [.int (nI j)]) (rest := []) dX6_sell_44 rfl mk_X5_removeAt mi_X5_removeAt ll_X6_125 ⟨(Nat.le_of_ble_eq_true rfl), (Nat.le_of_ble_eq_true rfl)⟩ aP.2.2.1.1 (by decide) rfl rfl (Nat.le_of_ble_eq_true rfl) (Nat.le_of_ble_eq_true rfl) (c_X5_removeAt aP.2.2.1 (by omega) (by omega) yP.2.2.2.2.2.2.1 o6 hj) rfl (Nat.le_of_ble_eq_true rfl) (fun s1 e1 => ?_)
  obtain ⟨e1, e2⟩ := e1
  have p1 : plIs s1 P (wB (hY h p) (pBrd (hY h p), (pBen (hY h p)).eraseIdx j)) := plIs_wB yP ⟨rowIs_keep yP.2.2.2.2.2.2.2 (e2 _ (by omega) (by omega) (by omega)) (e2 _ (by omega) (by omega) (by omega)) (e2 _ (by omega) (by omega) (by omega)), e1⟩ (fun a ha => e2 a (by omega) (by omega) (by omega))
  have hh1 := hallIs_P hh hp (eP ▸ p1) (fun b hb => e2 b (by omega) (by omega) (by omega))
  refine rAload_n dX6_sell_47 rfl ?_
  refine sGetR dX6_sell_48 fl_X6_18 ho.1 (by decide) rfl ?_
  refine rIload dX6_sell_51 rfl ?_
  refine rIload dX6_sell_53 rfl ?_
  refine sCallVv (M' := mX3_putBack) (rm' := rmD 1 0 0) (As := [.int (nI (u / 10)), .int (nI (wor (u % 10)))]) (rest := []) dX6_sell_55 rfl mk_X3_putBack mi_X3_putBack ll_X6_128 ⟨(Nat.le_of_ble_eq_true rfl), (Nat.le_of_ble_eq_true rfl)⟩ ho.2.2.1 (by decide) rfl rfl (Nat.le_of_ble_eq_true rfl) (Nat.le_of_ble_eq_true rfl) (c_X3_putBack ⟨ho.2.2.1, ho.2.2.2.1⟩ hh1.2.1 hu0) rfl (Nat.le_of_ble_eq_true rfl) (fun s2 f1 => ?_)
  obtain ⟨f1, f2⟩ := f1
  have hh2 := hallIs_pool hh1 f1 f2
  have p2 : plIs s2 P (wB (hY h p) (pBrd (hY h p), (pBen (hY h p)).eraseIdx j)) := plIs_keep p1 (fun b h1 h2 => f2 b (by omega))
  have hl := era_len hj
  have ok2 : plOk (wB (hY h p) (pBrd (hY h p), (pBen (hY h p)).eraseIdx j)) := plOk_wB (hok.2.2.1 p hp) o7 (okR_era o6) o9 (by show ((pBen (hY h p)).eraseIdx j).length ≤ 6; omega)
  refine rAload_n dX6_sell_58 rfl ?_
  refine rIload dX6_sell_59 rfl ?_
  refine sCallSp (M' := mX6_costOf) (rm' := rmD 1 0 0) (As := [.int (nI (u / 10))]) (rest := [.ref (ad V P)]) dX6_sell_61 rfl mk_X6_costOf ms_X6_costOf ll_X6_94 ⟨(Nat.le_of_ble_eq_true rfl), (Nat.le_of_ble_eq_true rfl)⟩ rfl (Nat.le_of_ble_eq_true rfl) (Nat.le_of_ble_eq_true rfl) (c_X6_costOf (by omega)) rfl (Nat.le_of_ble_eq_true rfl) (fun v e => ?_)
  refine tTop (w := (nI (cst (u / 10)))) e ?_
  refine rIload dX6_sell_64 rfl ?_
  refine nImul dX6_sell_66 ?_
  refine sCallVv (M' := mX2_addGold) (rm' := rmD 1 0 0) (As := [.int (nI ((cst (u / 10)) * (wor (u % 10))))]) (rest := []) dX6_sell_67 rfl mk_X2_addGold mi_X2_addGold ll_X6_132 ⟨(Nat.le_of_ble_eq_true rfl), (Nat.le_of_ble_eq_true rfl)⟩ aP.1 (by decide) rfl rfl (Nat.le_of_ble_eq_true rfl) (Nat.le_of_ble_eq_true rfl) (c_X2_addGold aP p2 ok2 (by omega)) rfl (Nat.le_of_ble_eq_true rfl) (fun s3 g1 => ?_)
  obtain ⟨g1, g2⟩ := g1
  have hz : s3 P 0 = nI (min 100 (pGold (hY h p) + cst (u / 10) * wor (u % 10))) := g1.1
  refine rAload_n dX6_sell_70 rfl ?_
  refine sGetI (x := (nI ((min 100 (pGold (hY h p) + cst (u / 10) * wor (u % 10)))))) dX6_sell_71 fl_X6_61 aP.1 (by decide) rfl (by rw [hz]) ?_
  exact sIret dX6_sell_74 rfl rfl (Nat.le_of_ble_eq_true rfl) (Nat.le_of_ble_eq_true rfl) ⟨_, rfl, ⟨rfl, rfl, hallIs_ext (hallIs_P hh2 hp (eP ▸ g1) (fun b hb => g2 b (by omega))) rfl rfl (fun i hi => (by
        show (if i = p then _ else if i = p then _ else hY h i) = if i = p then _ else hY h i
        by_cases e : i = p
        · rw [if_pos e, if_pos e]
          rfl
        · rw [if_neg e, if_neg e, if_neg e])) rfl, fun b hb => by rw [g2 b (by omega), f2 b (by omega), e2 b (by omega) (by omega) (by omega)]⟩⟩
set_option maxRecDepth 100000 in
set_option maxHeartbeats 4000000 in
theorem c_X6_toBoard {G : gG} {V : wV} {lo : Nat → Int64} {o : Nat} (ho : hallAt V o) {s : sgT} {h : hT} (hh : hallIs s o h) {B : Nat} (hok : hallOk B h) (hB : B ≤ 19000) (hfl : (gl G).stackTraces = false) {x y : Int32} : CSi G V mX6_toBoard cX6_toBoard (rmD 9 9 54) [.ref (ad V o), .int x, .int y] s lo (fun v s' => hPost o s (fBoard h x y) v s') (hExc [xIO, xIS] h (fBoard h x y)) := by
  refine CSi.of (L := [some (.ref (ad V o)), some (.int x), some (.int y), none]) rfl (by decide +kernel) rfl (Nat.le_of_ble_eq_true rfl) rfl ?_
  refine rAload_n dX6_toBoard_0 rfl ?_
  refine rIload_n dX6_toBoard_1 rfl ?_
  refine sCallVXq (M' := mX6_playerOf) (rm' := rmD 6 1 6) (As := [.int x]) (rest := []) rfl dX6_toBoard_2 rfl mk_X6_playerOf mi_X6_playerOf ll_X6_57 ⟨(Nat.le_of_ble_eq_true rfl), (Nat.le_of_ble_eq_true rfl)⟩ ho.1 (by decide) rfl rfl (Nat.le_of_ble_eq_true rfl) (Nat.le_of_ble_eq_true rfl) (c_X6_playerOf ho hfl) rfl (Nat.le_of_ble_eq_true rfl) rfl (by rintro E ⟨rfl, e⟩; refine ⟨?_, 0, ?_, rfl⟩ <;> simp only [fBoard, e]) (fun P qp => ?_)
  obtain ⟨p, hp, rfl, eP⟩ := qp
  have ip : idx 4 (nI p) = some p := idx_nI hp (by decide)
  have aP : plAt V P := eP ▸ ho.2.2.2.2.2.2.2 p hp
  have yP : plIs s P (hY h p) := eP ▸ hh.2.2.1 p hp
  obtain ⟨o1, o2, o3, o4, o5, o6, o7, o8, o9⟩ := hok.2.2.1 p hp
  refine rAstore_n dX6_toBoard_5 (by decide) ?_
  refine rAload_n dX6_toBoard_6 rfl ?_
  refine sGetR dX6_toBoard_7 fl_X6_98 aP.1 (by decide) rfl ?_
  refine rIload_n dX6_toBoard_10 rfl ?_
  refine sCallSXu (M' := mX6_requireUnit) (rm' := rmD 6 1 6) (As := [.ref (ad V (P + 2)), .int y]) (rest := []) rfl dX6_toBoard_11 rfl mk_X6_requireUnit ms_X6_requireUnit ll_X6_112 ⟨(Nat.le_of_ble_eq_true rfl), (Nat.le_of_ble_eq_true rfl)⟩ rfl (Nat.le_of_ble_eq_true rfl) (Nat.le_of_ble_eq_true rfl) (c_X6_requireUnit aP.2.2.1 (by omega) (by omega) yP.2.2.2.2.2.2.1 o6 hfl) rfl (Nat.le_of_ble_eq_true rfl) rfl (by rintro E ⟨rfl, e⟩; refine ⟨?_, 0, ?_, rfl⟩ <;> simp only [fBoard, ip, e]) (fun qj => ?_)
  obtain ⟨j, hj, rfl⟩ := qj
  have ij : idx (pBen (hY h p)).length (nI j) = some j := idx_nI hj (by omega)
  obtain ⟨u, hu⟩ : ∃ u, u = (pBen (hY h p)).getD j 0 := ⟨_, rfl⟩
  have hu9 : okU u := hu ▸ o6 j hj
  have q1 := (yP.2.2.2.2.2.2.1.2 j hj).1
  have q2 := (yP.2.2.2.2.2.2.1.2 j hj).2
  rw [← hu] at q1 q2
  refine rAload_n dX6_toBoard_14 rfl ?_
  refine sGetR dX6_toBoard_15 fl_X6_135 aP.1 (by decide) rfl ?_
  refine sGetI (x := (nI ((pBrd (hY h p)).length))) dX6_toBoard_18 fl_X6_138 aP.2.2.2.1 (by decide) rfl (by rw [yP.2.2.2.2.2.2.2.1]) ?_
  refine rAload_n dX6_toBoard_21 rfl ?_
  refine sGetI (x := (nI (pLev (hY h p)))) dX6_toBoard_22 fl_X6_76 aP.1 (by decide) rfl (by rw [yP.2.1]) ?_
  refine r_icmp_lt (tgt := 38) dX6_toBoard_25 (by decide) (fun c_25 => ?_) (fun c_25 => ?_)
  · have c_25 : ((pBrd (hY h p)).length) < (pLev (hY h p)) := (nI_ltI (by omega) (by omega)).mp c_25
    have hF : fBoard h (nI p) (nI j) = (0, nI ((pBrd (hY h p)).length + 1), setY h p (wB (hY h p) (pBrd (hY h p) ++ [u], (pBen (hY h p)).eraseIdx j))) := by simp only [fBoard, ip, ij, if_neg (show ¬ pLev (hY h p) ≤ (pBrd (hY h p)).length by omega), ← hu]
    rw [hF]
    refine rAload_n dX6_toBoard_38 rfl ?_
    refine sGetR dX6_toBoard_39 fl_X6_135 aP.1 (by decide) rfl ?_
    refine rAload_n dX6_toBoard_42 rfl ?_
    refine sGetR dX6_toBoard_43 fl_X6_98 aP.1 (by decide) rfl ?_
    refine sGetR dX6_toBoard_46 fl_X6_116 aP.2.2.1.1 (by decide) rfl ?_
    refine rIload_n dX6_toBoard_49 rfl ?_
    refine nIald (v := (nI (u / 10))) dX6_toBoard_50 aP.2.2.1.2.1 (by omega) (by omega) (by rw [q1]) ?_
    refine rAload_n dX6_toBoard_51 rfl ?_
    refine sGetR dX6_toBoard_52 fl_X6_98 aP.1 (by decide) rfl ?_
    refine sGetR dX6_toBoard_55 fl_X6_119 aP.2.2.1.1 (by decide) rfl ?_
    refine rIload_n dX6_toBoard_58 rfl ?_
    refine nIald (v := (nI (u % 10))) dX6_toBoard_59 aP.2.2.1.2.2 (by omega) (by omega) (by rw [q2]) ?_
    refine sCallVi (M' := mX5_append) (rm' := rmD 1 0 0) (As := [.int (nI (u / 10)), .int (nI (u % 10))]) (rest := []) dX6_toBoard_60 rfl mk_X5_append mi_X5_append ll_X6_102 ⟨(Nat.le_of_ble_eq_true rfl), (Nat.le_of_ble_eq_true rfl)⟩ aP.2.2.2.1 (by decide) rfl rfl (Nat.le_of_ble_eq_true rfl) (Nat.le_of_ble_eq_true rfl) (c_X5_append aP.2.2.2 (by omega) (by omega) yP.2.2.2.2.2.2.2 o7 (by omega) (u := u) rfl rfl) rfl (Nat.le_of_ble_eq_true rfl) (fun v s1 e1 => ?_)
    obtain ⟨e1, e2, rfl⟩ := e1
    refine r_if_eq (tgt := 74) dX6_toBoard_63 (by decide) (fun c_63 => ?_) (fun c_63 => ?_)
    · have c_63 : 1 = 0 := (nz_eq (by omega)).mp c_63
      exact absurd c_63 (by omega)
    · have c_63 : ¬ (1 = 0) := fun h => c_63 ((nz_eq (by omega)).mpr h)
      have r1 : rowIs s1 (P + 2) (pBen (hY h p)) := rowIs_keep yP.2.2.2.2.2.2.1 (e2 _ (by omega) (by omega) (by omega)) (e2 _ (by omega) (by omega) (by omega)) (e2 _ (by omega) (by omega) (by omega))
      refine rAload_n dX6_toBoard_66 rfl ?_
      refine sGetR dX6_toBoard_67 fl_X6_98 aP.1 (by decide) rfl ?_
      refine rIload_n dX6_toBoard_70 rfl ?_
      refine sCallVv (M' := mX5_removeAt) (rm' := rmD 2 0 0) (As := [.int (nI j)]) (rest := []) dX6_toBoard_71 rfl mk_X5_removeAt mi_X5_removeAt ll_X6_125 ⟨(Nat.le_of_ble_eq_true rfl), (Nat.le_of_ble_eq_true rfl)⟩ aP.2.2.1.1 (by decide) rfl rfl (Nat.le_of_ble_eq_true rfl) (Nat.le_of_ble_eq_true rfl) (c_X5_removeAt aP.2.2.1 (by omega) (by omega) r1 o6 hj) rfl (Nat.le_of_ble_eq_true rfl) (fun s2 f1 => ?_)
      obtain ⟨f1, f2⟩ := f1
      have r2 : rowIs s2 (P + 5) (pBrd (hY h p) ++ [u]) := rowIs_keep e1 (f2 _ (by omega) (by omega) (by omega)) (f2 _ (by omega) (by omega) (by omega)) (f2 _ (by omega) (by omega) (by omega))
      have hz : s2 (P + 5) 2 = nI ((pBrd (hY h p)).length + 1) := by rw [r2.1]; simp
      refine rAload_n dX6_toBoard_74 rfl ?_
      refine sGetR dX6_toBoard_75 fl_X6_135 aP.1 (by decide) rfl ?_
      refine sGetI (x := (nI ((pBrd (hY h p)).length + 1))) dX6_toBoard_78 fl_X6_138 aP.2.2.2.1 (by decide) rfl (by rw [hz]) ?_
      exact sIret dX6_toBoard_81 rfl rfl (Nat.le_of_ble_eq_true rfl) (Nat.le_of_ble_eq_true rfl) ⟨_, rfl, ⟨rfl, rfl, hallIs_P hh hp (eP ▸ plIs_wB yP ⟨r2, f1⟩ (fun a ha => by rw [f2 a (by omega) (by omega) (by omega), e2 a (by omega) (by omega) (by omega)])) (fun b hb => by rw [f2 b (by omega) (by omega) (by omega), e2 b (by omega) (by omega) (by omega)]), (fun b hb => by rw [f2 b (by omega) (by omega) (by omega), e2 b (by omega) (by omega) (by omega)])⟩⟩
  · have c_25 : ¬ (((pBrd (hY h p)).length) < (pLev (hY h p))) := fun h => c_25 ((nI_ltI (by omega) (by omega)).mpr h)
    exact sThrow hfl rfl xl_X6_141 dX6_toBoard_28 dX6_toBoard_31 dX6_toBoard_32 dX6_toBoard_34 dX6_toBoard_37 (Nat.le_of_ble_eq_true rfl) (Nat.le_of_ble_eq_true rfl) (Nat.le_of_ble_eq_true rfl) (Nat.le_of_ble_eq_true rfl) rfl ⟨by simp only [fBoard, ip, ij, if_pos (show pLev (hY h p) ≤ (pBrd (hY h p)).length by omega)], 1, by simp only [fBoard, ip, ij, if_pos (show pLev (hY h p) ≤ (pBrd (hY h p)).length by omega)], rfl⟩
set_option maxRecDepth 100000 in
set_option maxHeartbeats 4000000 in
theorem c_X6_toBench {G : gG} {V : wV} {lo : Nat → Int64} {o : Nat} (ho : hallAt V o) {s : sgT} {h : hT} (hh : hallIs s o h) {B : Nat} (hok : hallOk B h) (hB : B ≤ 19000) (hfl : (gl G).stackTraces = false) {x y : Int32} : CSi G V mX6_toBench cX6_toBench (rmD 9 9 54) [.ref (ad V o), .int x, .int y] s lo (fun v s' => hPost o s (fBench h x y) v s') (hExc [xIO, xIS] h (fBench h x y)) := by
  refine CSi.of (L := [some (.ref (ad V o)), some (.int x), some (.int y), none]) rfl (by decide +kernel) rfl (Nat.le_of_ble_eq_true rfl) rfl ?_
  refine rAload_n dX6_toBench_0 rfl ?_
  refine rIload_n dX6_toBench_1 rfl ?_
  refine sCallVXq (M' := mX6_playerOf) (rm' := rmD 6 1 6) (As := [.int x]) (rest := []) rfl dX6_toBench_2 rfl mk_X6_playerOf mi_X6_playerOf ll_X6_57 ⟨(Nat.le_of_ble_eq_true rfl), (Nat.le_of_ble_eq_true rfl)⟩ ho.1 (by decide) rfl rfl (Nat.le_of_ble_eq_true rfl) (Nat.le_of_ble_eq_true rfl) (c_X6_playerOf ho hfl) rfl (Nat.le_of_ble_eq_true rfl) rfl (by rintro E ⟨rfl, e⟩; refine ⟨?_, 0, ?_, rfl⟩ <;> simp only [fBench, e]) (fun P qp => ?_)
  obtain ⟨p, hp, rfl, eP⟩ := qp
  have ip : idx 4 (nI p) = some p := idx_nI hp (by decide)
  have aP : plAt V P := eP ▸ ho.2.2.2.2.2.2.2 p hp
  have yP : plIs s P (hY h p) := eP ▸ hh.2.2.1 p hp
  obtain ⟨o1, o2, o3, o4, o5, o6, o7, o8, o9⟩ := hok.2.2.1 p hp
  refine rAstore_n dX6_toBench_5 (by decide) ?_
  refine rAload_n dX6_toBench_6 rfl ?_
  refine sGetR dX6_toBench_7 fl_X6_135 aP.1 (by decide) rfl ?_
  refine rIload_n dX6_toBench_10 rfl ?_
  refine sCallSXu (M' := mX6_requireUnit) (rm' := rmD 6 1 6) (As := [.ref (ad V (P + 5)), .int y]) (rest := []) rfl dX6_toBench_11 rfl mk_X6_requireUnit ms_X6_requireUnit ll_X6_112 ⟨(Nat.le_of_ble_eq_true rfl), (Nat.le_of_ble_eq_true rfl)⟩ rfl (Nat.le_of_ble_eq_true rfl) (Nat.le_of_ble_eq_true rfl) (c_X6_requireUnit aP.2.2.2 (by omega) (by omega) yP.2.2.2.2.2.2.2 o7 hfl) rfl (Nat.le_of_ble_eq_true rfl) rfl (by rintro E ⟨rfl, e⟩; refine ⟨?_, 0, ?_, rfl⟩ <;> simp only [fBench, ip, e]) (fun qj => ?_)
  obtain ⟨j, hj, rfl⟩ := qj
  have ij : idx (pBrd (hY h p)).length (nI j) = some j := idx_nI hj (by omega)
  obtain ⟨u, hu⟩ : ∃ u, u = (pBrd (hY h p)).getD j 0 := ⟨_, rfl⟩
  have hu9 : okU u := hu ▸ o7 j hj
  have q1 := (yP.2.2.2.2.2.2.2.2 j hj).1
  have q2 := (yP.2.2.2.2.2.2.2.2 j hj).2
  rw [← hu] at q1 q2
  by_cases hf : (pBen (hY h p)).length = 6
  · refine rAload_n dX6_toBench_14 rfl ?_
    refine sGetR dX6_toBench_15 fl_X6_98 aP.1 (by decide) rfl ?_
    refine rAload_n dX6_toBench_18 rfl ?_
    refine sGetR dX6_toBench_19 fl_X6_135 aP.1 (by decide) rfl ?_
    refine sGetR dX6_toBench_22 fl_X6_116 aP.2.2.2.1 (by decide) rfl ?_
    refine rIload_n dX6_toBench_25 rfl ?_
    refine nIald (v := (nI (u / 10))) dX6_toBench_26 aP.2.2.2.2.1 (by omega) (by omega) (by rw [q1]) ?_
    refine rAload_n dX6_toBench_27 rfl ?_
    refine sGetR dX6_toBench_28 fl_X6_135 aP.1 (by decide) rfl ?_
    refine sGetR dX6_toBench_31 fl_X6_119 aP.2.2.2.1 (by decide) rfl ?_
    refine rIload_n dX6_toBench_34 rfl ?_
    refine nIald (v := (nI (u % 10))) dX6_toBench_35 aP.2.2.2.2.2 (by omega) (by omega) (by rw [q2]) ?_
    refine sCallVp (M' := mX5_append) (rm' := rmD 1 0 0) (As := [.int (nI (u / 10)), .int (nI (u % 10))]) (rest := []) dX6_toBench_36 rfl mk_X5_append mi_X5_append ll_X6_102 ⟨(Nat.le_of_ble_eq_true rfl), (Nat.le_of_ble_eq_true rfl)⟩ aP.2.2.1.1 (by decide) rfl rfl (Nat.le_of_ble_eq_true rfl) (Nat.le_of_ble_eq_true rfl) (c_X5_append0 aP.2.2.1 (by omega) (by omega) yP.2.2.2.2.2.2.1 o6 hf) rfl (Nat.le_of_ble_eq_true rfl) (fun v e => ?_)
    subst e
    refine r_if_ne (tgt := 52) dX6_toBench_39 (by decide) (fun c_39 => ?_) (fun c_39 => ?_)
    · have c_39 : ¬ (0 = 0) := fun h => c_39 ((nz_eq (by omega)).mpr h)
      exact absurd rfl c_39
    · have c_39 : 0 = 0 := (nz_eq (by omega)).mp c_39
      exact sThrow hfl rfl xl_X6_107 dX6_toBench_42 dX6_toBench_45 dX6_toBench_46 dX6_toBench_48 dX6_toBench_51 (Nat.le_of_ble_eq_true rfl) (Nat.le_of_ble_eq_true rfl) (Nat.le_of_ble_eq_true rfl) (Nat.le_of_ble_eq_true rfl) rfl ⟨by simp only [fBench, ip, ij, if_pos hf], 1, by simp only [fBench, ip, ij, if_pos hf], rfl⟩
  · have hF : fBench h (nI p) (nI j) = (0, nI (merI 11 ((pBrd (hY h p)).eraseIdx j, pBen (hY h p) ++ [u])).2.length, setY h p (wB (hY h p) (merI 11 ((pBrd (hY h p)).eraseIdx j, pBen (hY h p) ++ [u])))) := by simp only [fBench, ip, ij, if_neg hf, ← hu]
    rw [hF]
    refine rAload_n dX6_toBench_14 rfl ?_
    refine sGetR dX6_toBench_15 fl_X6_98 aP.1 (by decide) rfl ?_
    refine rAload_n dX6_toBench_18 rfl ?_
    refine sGetR dX6_toBench_19 fl_X6_135 aP.1 (by decide) rfl ?_
    refine sGetR dX6_toBench_22 fl_X6_116 aP.2.2.2.1 (by decide) rfl ?_
    refine rIload_n dX6_toBench_25 rfl ?_
    refine nIald (v := (nI (u / 10))) dX6_toBench_26 aP.2.2.2.2.1 (by omega) (by omega) (by rw [q1]) ?_
    refine rAload_n dX6_toBench_27 rfl ?_
    refine sGetR dX6_toBench_28 fl_X6_135 aP.1 (by decide) rfl ?_
    refine sGetR dX6_toBench_31 fl_X6_119 aP.2.2.2.1 (by decide) rfl ?_
    refine rIload_n dX6_toBench_34 rfl ?_
    refine nIald (v := (nI (u % 10))) dX6_toBench_35 aP.2.2.2.2.2 (by omega) (by omega) (by rw [q2]) ?_
    refine sCallVi (M' := mX5_append) (rm' := rmD 1 0 0) (As := [.int (nI (u / 10)), .int (nI (u % 10))]) (rest := []) dX6_toBench_36 rfl mk_X5_append mi_X5_append ll_X6_102 ⟨(Nat.le_of_ble_eq_true rfl), (Nat.le_of_ble_eq_true rfl)⟩ aP.2.2.1.1 (by decide) rfl rfl (Nat.le_of_ble_eq_true rfl) (Nat.le_of_ble_eq_true rfl) (c_X5_append aP.2.2.1 (by omega) (by omega) yP.2.2.2.2.2.2.1 o6 (by omega) (u := u) rfl rfl) rfl (Nat.le_of_ble_eq_true rfl) (fun v s1 e1 => ?_)
    obtain ⟨e1, e2, rfl⟩ := e1
    refine r_if_ne (tgt := 52) dX6_toBench_39 (by decide) (fun c_39 => ?_) (fun c_39 => ?_)
    · have c_39 : ¬ (1 = 0) := fun h => c_39 ((nz_eq (by omega)).mpr h)
      have r1 : rowIs s1 (P + 5) (pBrd (hY h p)) := rowIs_keep yP.2.2.2.2.2.2.2 (e2 _ (by omega) (by omega) (by omega)) (e2 _ (by omega) (by omega) (by omega)) (e2 _ (by omega) (by omega) (by omega))
      refine rAload_n dX6_toBench_52 rfl ?_
      refine sGetR dX6_toBench_53 fl_X6_135 aP.1 (by decide) rfl ?_
      refine rIload_n dX6_toBench_56 rfl ?_
      refine sCallVv (M' := mX5_removeAt) (rm' := rmD 2 0 0) (As := [.int (nI j)]) (rest := []) dX6_toBench_57 rfl mk_X5_removeAt mi_X5_removeAt ll_X6_125 ⟨(Nat.le_of_ble_eq_true rfl), (Nat.le_of_ble_eq_true rfl)⟩ aP.2.2.2.1 (by decide) rfl rfl (Nat.le_of_ble_eq_true rfl) (Nat.le_of_ble_eq_true rfl) (c_X5_removeAt aP.2.2.2 (by omega) (by omega) r1 o7 hj) rfl (Nat.le_of_ble_eq_true rfl) (fun s2 f1 => ?_)
      obtain ⟨f1, f2⟩ := f1
      have r2 : rowIs s2 (P + 2) (pBen (hY h p) ++ [u]) := rowIs_keep e1 (f2 _ (by omega) (by omega) (by omega)) (f2 _ (by omega) (by omega) (by omega)) (f2 _ (by omega) (by omega) (by omega))
      have hl := era_len hj
      have bo : bbOk ((pBrd (hY h p)).eraseIdx j, pBen (hY h p) ++ [u]) := ⟨okR_era o7, okR_app o6 hu9, by show ((pBrd (hY h p)).eraseIdx j).length ≤ 5; omega, by rw [List.length_append]; simp only [List.length_singleton]; omega⟩
      refine rAload_n dX6_toBench_60 rfl ?_
      refine sCallVv (M' := mX2_mergeThrees) (rm' := rmD 5 0 0) (As := []) (rest := []) dX6_toBench_61 rfl mk_X2_mergeThrees mi_X2_mergeThrees ll_X6_109 ⟨(Nat.le_of_ble_eq_true rfl), (Nat.le_of_ble_eq_true rfl)⟩ aP.1 (by decide) rfl rfl (Nat.le_of_ble_eq_true rfl) (Nat.le_of_ble_eq_true rfl) (c_X2_mergeThrees aP (b := ((pBrd (hY h p)).eraseIdx j, pBen (hY h p) ++ [u])) ⟨f1, r2⟩ bo) rfl (Nat.le_of_ble_eq_true rfl) (fun s3 g1 => ?_)
      obtain ⟨g1, g2⟩ := g1
      refine rAload_n dX6_toBench_64 rfl ?_
      refine sGetR dX6_toBench_65 fl_X6_98 aP.1 (by decide) rfl ?_
      refine sGetI (x := (nI ((merI 11 ((pBrd (hY h p)).eraseIdx j, pBen (hY h p) ++ [u])).2.length))) dX6_toBench_68 fl_X6_138 aP.2.2.1.1 (by decide) rfl (by rw [g1.2.1]) ?_
      exact sIret dX6_toBench_71 rfl rfl (Nat.le_of_ble_eq_true rfl) (Nat.le_of_ble_eq_true rfl) ⟨_, rfl, ⟨rfl, rfl, hallIs_P hh hp (eP ▸ plIs_wB yP g1 (fun a ha => by rw [g2 a (by omega), f2 a (by omega) (by omega) (by omega), e2 a (by omega) (by omega) (by omega)])) (fun b hb => by rw [g2 b (by omega), f2 b (by omega) (by omega) (by omega), e2 b (by omega) (by omega) (by omega)]), (fun b hb => by rw [g2 b (by omega), f2 b (by omega) (by omega) (by omega), e2 b (by omega) (by omega) (by omega)])⟩⟩
    · have c_39 : 1 = 0 := (nz_eq (by omega)).mp c_39
      exact absurd c_39 (by omega)
set_option maxRecDepth 100000 in
set_option maxHeartbeats 4000000 in
theorem c_X6_musterSides {G : gG} {V : wV} {lo : Nat → Int64} {o : Nat} (ho : hallAt V o) {s : sgT} {h : hT} (hh : hallIs s o h) {B : Nat} (hok : hallOk B h) (hB : B ≤ 19000) (hfl : (gl G).stackTraces = false) {x y : Int32} : CSv G V mX6_musterSides cX6_musterSides (rmD 7 3 18) [.ref (ad V o), .int x, .int y] s lo (fun s' => ∃ p q, p < 4 ∧ q < 4 ∧ ¬ p = q ∧ x = nI p ∧ y = nI q ∧ sideIs s' (o + 6 + 1) (pBrd (hY h p)).length (z0F (pBrd (hY h p)) (pBrd (hY h q))).1 (gF (pBrd (hY h p))) 0 ∧ sideIs s' (o + 6 + 4) (pBrd (hY h q)).length (z0F (pBrd (hY h p)) (pBrd (hY h q))).2.2.1 (gF (pBrd (hY h q))) 0 ∧ (∀ b, b < o + 6 + 1 ∨ o + 6 + 7 ≤ b → s' b = s b)) (hExc [xIO, xIA] h (fFight h x y)) := by
  refine CSv.of (L := [some (.ref (ad V o)), some (.int x), some (.int y), none, none]) rfl (by decide +kernel) rfl (Nat.le_of_ble_eq_true rfl) rfl ?_
  refine rAload_n dX6_musterSides_0 rfl ?_
  refine rIload_n dX6_musterSides_1 rfl ?_
  refine sCallVXq (M' := mX6_playerOf) (rm' := rmD 6 1 6) (As := [.int x]) (rest := []) rfl dX6_musterSides_2 rfl mk_X6_playerOf mi_X6_playerOf ll_X6_57 ⟨(Nat.le_of_ble_eq_true rfl), (Nat.le_of_ble_eq_true rfl)⟩ ho.1 (by decide) rfl rfl (Nat.le_of_ble_eq_true rfl) (Nat.le_of_ble_eq_true rfl) (c_X6_playerOf ho hfl) rfl (Nat.le_of_ble_eq_true rfl) rfl (by rintro E ⟨rfl, e⟩; refine ⟨?_, 0, ?_, rfl⟩ <;> simp only [fFight, e]) (fun P qp => ?_)
  obtain ⟨p, hp, rfl, eP⟩ := qp
  have ip : idx 4 (nI p) = some p := idx_nI hp (by decide)
  have aP : plAt V P := eP ▸ ho.2.2.2.2.2.2.2 p hp
  have yP : plIs s P (hY h p) := eP ▸ hh.2.2.1 p hp
  obtain ⟨o1, o2, o3, o4, o5, o6, o7, o8, o9⟩ := hok.2.2.1 p hp
  refine rAstore_n dX6_musterSides_5 (by decide) ?_
  refine rAload_n dX6_musterSides_6 rfl ?_
  refine rIload_n dX6_musterSides_7 rfl ?_
  refine sCallVXq (M' := mX6_playerOf) (rm' := rmD 6 1 6) (As := [.int y]) (rest := []) rfl dX6_musterSides_8 rfl mk_X6_playerOf mi_X6_playerOf ll_X6_57 ⟨(Nat.le_of_ble_eq_true rfl), (Nat.le_of_ble_eq_true rfl)⟩ ho.1 (by decide) rfl rfl (Nat.le_of_ble_eq_true rfl) (Nat.le_of_ble_eq_true rfl) (c_X6_playerOf ho hfl) rfl (Nat.le_of_ble_eq_true rfl) rfl (by rintro E ⟨rfl, e⟩; refine ⟨?_, 0, ?_, rfl⟩ <;> simp only [fFight, ip, e]) (fun Q qq => ?_)
  obtain ⟨q, hq, rfl, eQ⟩ := qq
  have iq : idx 4 (nI q) = some q := idx_nI hq (by decide)
  have aQ : plAt V Q := eQ ▸ ho.2.2.2.2.2.2.2 q hq
  have yQ : plIs s Q (hY h q) := eQ ▸ hh.2.2.1 q hq
  obtain ⟨r1, r2, r3, r4, r5, r6, r7, r8, r9⟩ := hok.2.2.1 q hq
  refine rAstore dX6_musterSides_11 (by decide) ?_
  refine rIload_n dX6_musterSides_13 rfl ?_
  refine rIload_n dX6_musterSides_14 rfl ?_
  refine r_icmp_ne (tgt := 28) dX6_musterSides_15 (by decide) (fun c_15 => ?_) (fun c_15 => ?_)
  · have c_15 : ¬ (p = q) := fun h => c_15 ((nI_eq (by omega) (by omega)).mpr h)
    refine rAload_n dX6_musterSides_28 rfl ?_
    refine sGetR dX6_musterSides_29 fl_X6_32 ho.1 (by decide) rfl ?_
    refine rAload_n dX6_musterSides_32 rfl ?_
    refine sGetR dX6_musterSides_33 fl_X6_135 aP.1 (by decide) rfl ?_
    refine rAload dX6_musterSides_36 rfl ?_
    refine sGetR dX6_musterSides_38 fl_X6_135 aQ.1 (by decide) rfl ?_
    refine sCallVv (M' := mX0_muster) (rm' := rmD 4 0 0) (As := [.ref (ad V (P + 5)), .ref (ad V (Q + 5))]) (rest := []) dX6_musterSides_41 rfl mk_X0_muster mi_X0_muster ll_X6_217 ⟨(Nat.le_of_ble_eq_true rfl), (Nat.le_of_ble_eq_true rfl)⟩ ho.2.2.2.2.2.2.1.1 (by decide) rfl rfl (Nat.le_of_ble_eq_true rfl) (Nat.le_of_ble_eq_true rfl) (c_X0_muster ho.2.2.2.2.2.2.1 aP.2.2.2 aQ.2.2.2 (by omega) (by omega) (by omega) (by omega) yP.2.2.2.2.2.2.2 yQ.2.2.2.2.2.2.2 o7 r7) rfl (Nat.le_of_ble_eq_true rfl) (fun s1 e => ?_)
    obtain ⟨e1, e2, e3⟩ := e
    exact sVret dX6_musterSides_44 rfl (Nat.le_of_ble_eq_true rfl) (Nat.le_of_ble_eq_true rfl) ⟨rfl, ⟨p, q, hp, hq, c_15, rfl, rfl, e1, e2, e3⟩⟩
  · have c_15 : p = q := (nI_eq (by omega) (by omega)).mp c_15
    subst c_15
    exact sThrow hfl rfl xl_X6_215 dX6_musterSides_18 dX6_musterSides_21 dX6_musterSides_22 dX6_musterSides_24 dX6_musterSides_27 (Nat.le_of_ble_eq_true rfl) (Nat.le_of_ble_eq_true rfl) (Nat.le_of_ble_eq_true rfl) (Nat.le_of_ble_eq_true rfl) rfl ⟨by simp only [fFight, ip, if_true], 1, by simp only [fFight, ip, if_true], rfl⟩
set_option maxRecDepth 100000 in
set_option maxHeartbeats 4000000 in
theorem c_X6_fight {G : gG} {V : wV} {lo : Nat → Int64} {o : Nat} (ho : hallAt V o) {s : sgT} {h : hT} (hh : hallIs s o h) {B : Nat} (hok : hallOk B h) (hB : B ≤ 19000) (hfl : (gl G).stackTraces = false) {x y : Int32} : CSi G V mX6_fight cX6_fight (rmD 9 9 54) [.ref (ad V o), .int x, .int y] s lo (fun v s' => hPost o s (fFight h x y) v s') (hExc [xIO, xIA] h (fFight h x y)) := by
  refine CSi.of (L := [some (.ref (ad V o)), some (.int x), some (.int y)]) rfl (by decide +kernel) rfl (Nat.le_of_ble_eq_true rfl) rfl ?_
  refine rAload_n dX6_fight_0 rfl ?_
  refine rIload_n dX6_fight_1 rfl ?_
  refine rIload_n dX6_fight_2 rfl ?_
  refine sCallVXv (M' := mX6_musterSides) (rm' := rmD 7 3 18) (As := [.int x, .int y]) (rest := []) rfl dX6_fight_3 rfl mk_X6_musterSides mi_X6_musterSides ll_X6_164 ⟨(Nat.le_of_ble_eq_true rfl), (Nat.le_of_ble_eq_true rfl)⟩ ho.1 (by decide) rfl rfl (Nat.le_of_ble_eq_true rfl) (Nat.le_of_ble_eq_true rfl) (c_X6_musterSides ho hh hok hB hfl) rfl (Nat.le_of_ble_eq_true rfl) rfl (fun _ h => h) (fun s1 e => ?_)
  obtain ⟨p, q, hp, hq, hpq, rfl, rfl, e1, e2, e3⟩ := e
  have hF : fFight h (nI p) (nI q) = (0, nI (livA (pBrd (hY h p)) (pBrd (hY h q))) - nI (livB (pBrd (hY h p)) (pBrd (hY h q))), h) := by simp only [fFight, idx_nI hp (by decide), idx_nI hq (by decide), if_neg hpq]
  refine rAload_n dX6_fight_6 rfl ?_
  refine sGetR dX6_fight_7 fl_X6_32 ho.1 (by decide) rfl ?_
  refine sCallVv (M' := mX0_fightOut) (rm' := rmD 2 0 0) (As := []) (rest := []) dX6_fight_10 rfl mk_X0_fightOut mi_X0_fightOut ll_X6_167 ⟨(Nat.le_of_ble_eq_true rfl), (Nat.le_of_ble_eq_true rfl)⟩ ho.2.2.2.2.2.2.1.1 (by decide) rfl rfl (Nat.le_of_ble_eq_true rfl) (Nat.le_of_ble_eq_true rfl) (c_X0_fightOut ho.2.2.2.2.2.2.1 e1 e2) rfl (Nat.le_of_ble_eq_true rfl) (fun s2 f => ?_)
  obtain ⟨⟨t0, f1⟩, ⟨t1, f2⟩, f3, f4⟩ := f
  refine rAload_n dX6_fight_13 rfl ?_
  refine sGetR dX6_fight_14 fl_X6_32 ho.1 (by decide) rfl ?_
  refine sCallVp (M' := mX0_result) (rm' := rmD 2 0 0) (As := []) (rest := []) dX6_fight_17 rfl mk_X0_result mi_X0_result ll_X6_170 ⟨(Nat.le_of_ble_eq_true rfl), (Nat.le_of_ble_eq_true rfl)⟩ ho.2.2.2.2.2.2.1.1 (by decide) rfl rfl (Nat.le_of_ble_eq_true rfl) (Nat.le_of_ble_eq_true rfl) (c_X0_result ho.2.2.2.2.2.2.1 f1 f2) rfl (Nat.le_of_ble_eq_true rfl) (fun v g => ?_)
  rw [hF]
  exact sIret dX6_fight_20 rfl rfl (Nat.le_of_ble_eq_true rfl) (Nat.le_of_ble_eq_true rfl) ⟨_, rfl, ⟨rfl, g, hallIs_keep hh (fun b h1 h2 => by rw [f4 b (by omega), e3 b (by omega)]) (fun b h1 h2 => by rw [f4 b (by omega), e3 b (by omega)]), fun b hb => by rw [f4 b (by omega), e3 b (by omega)]⟩⟩
set_option maxRecDepth 100000 in
set_option maxHeartbeats 4000000 in
theorem c_X6_fightByRecord {G : gG} {V : wV} {lo : Nat → Int64} {o : Nat} (ho : hallAt V o) {s : sgT} {h : hT} (hh : hallIs s o h) {B : Nat} (hok : hallOk B h) (hB : B ≤ 19000) (hfl : (gl G).stackTraces = false) {x y : Int32} : CSi G V mX6_fightByRecord cX6_fightByRecord (rmD 9 9 54) [.ref (ad V o), .int x, .int y] s lo (fun v s' => hPost o s (fFight h x y) v s') (hExc [xIO, xIA] h (fFight h x y)) := by
  refine CSi.of (L := [some (.ref (ad V o)), some (.int x), some (.int y)]) rfl (by decide +kernel) rfl (Nat.le_of_ble_eq_true rfl) rfl ?_
  refine rAload_n dX6_fightByRecord_0 rfl ?_
  refine rIload_n dX6_fightByRecord_1 rfl ?_
  refine rIload_n dX6_fightByRecord_2 rfl ?_
  refine sCallVXv (M' := mX6_musterSides) (rm' := rmD 7 3 18) (As := [.int x, .int y]) (rest := []) rfl dX6_fightByRecord_3 rfl mk_X6_musterSides mi_X6_musterSides ll_X6_164 ⟨(Nat.le_of_ble_eq_true rfl), (Nat.le_of_ble_eq_true rfl)⟩ ho.1 (by decide) rfl rfl (Nat.le_of_ble_eq_true rfl) (Nat.le_of_ble_eq_true rfl) (c_X6_musterSides ho hh hok hB hfl) rfl (Nat.le_of_ble_eq_true rfl) rfl (fun _ h => h) (fun s1 e => ?_)
  obtain ⟨p, q, hp, hq, hpq, rfl, rfl, e1, e2, e3⟩ := e
  have hF : fFight h (nI p) (nI q) = (0, nI (livA (pBrd (hY h p)) (pBrd (hY h q))) - nI (livB (pBrd (hY h p)) (pBrd (hY h q))), h) := by simp only [fFight, idx_nI hp (by decide), idx_nI hq (by decide), if_neg hpq]
  refine rAload_n dX6_fightByRecord_6 rfl ?_
  refine sGetR dX6_fightByRecord_7 fl_X6_32 ho.1 (by decide) rfl ?_
  refine sCallVv (M' := mX0_fightOut) (rm' := rmD 2 0 0) (As := []) (rest := []) dX6_fightByRecord_10 rfl mk_X0_fightOut mi_X0_fightOut ll_X6_167 ⟨(Nat.le_of_ble_eq_true rfl), (Nat.le_of_ble_eq_true rfl)⟩ ho.2.2.2.2.2.2.1.1 (by decide) rfl rfl (Nat.le_of_ble_eq_true rfl) (Nat.le_of_ble_eq_true rfl) (c_X0_fightOut ho.2.2.2.2.2.2.1 e1 e2) rfl (Nat.le_of_ble_eq_true rfl) (fun s2 f => ?_)
  obtain ⟨⟨t0, f1⟩, ⟨t1, f2⟩, f3, f4⟩ := f
  have hh2 : hallIs s2 o h := hallIs_keep hh (fun b h1 h2 => by rw [f4 b (by omega), e3 b (by omega)]) (fun b h1 h2 => by rw [f4 b (by omega), e3 b (by omega)])
  have hN := CS.noX (c_X6_musterSides (lo := lo) ho hh2 hok hB hfl (x := nI p) (y := nI q)) (hExc_no (by rw [hF]))
  refine rAload_n dX6_fightByRecord_13 rfl ?_
  refine rIload_n dX6_fightByRecord_14 rfl ?_
  refine rIload_n dX6_fightByRecord_15 rfl ?_
  refine sCallVv (M' := mX6_musterSides) (rm' := rmD 7 3 18) (As := [.int (nI p), .int (nI q)]) (rest := []) dX6_fightByRecord_16 rfl mk_X6_musterSides mi_X6_musterSides ll_X6_164 ⟨(Nat.le_of_ble_eq_true rfl), (Nat.le_of_ble_eq_true rfl)⟩ ho.1 (by decide) rfl rfl (Nat.le_of_ble_eq_true rfl) (Nat.le_of_ble_eq_true rfl) (hN) rfl (Nat.le_of_ble_eq_true rfl) (fun s3 g => ?_)
  obtain ⟨p2, q2, hp2, hq2, -, k1, k2, g1, g2, g3⟩ := g
  have k3 : p = p2 := (nI_eq (by omega) (by omega)).mp k1
  have k4 : q = q2 := (nI_eq (by omega) (by omega)).mp k2
  subst k3
  subst k4
  have hlog : logIs s3 (o + 6) (logF (pBrd (hY h p)) (pBrd (hY h q))) := ⟨by rw [g3 _ (by omega)]; exact f3.1, fun j hj => by rw [g3 _ (by omega), g3 _ (by omega)]; exact f3.2.1 j hj, f3.2.2⟩
  refine rAload_n dX6_fightByRecord_19 rfl ?_
  refine sGetR dX6_fightByRecord_20 fl_X6_32 ho.1 (by decide) rfl ?_
  refine sCallVv (M' := mX0_redo) (rm' := rmD 2 0 0) (As := []) (rest := []) dX6_fightByRecord_23 rfl mk_X0_redo mi_X0_redo ll_X6_173 ⟨(Nat.le_of_ble_eq_true rfl), (Nat.le_of_ble_eq_true rfl)⟩ ho.2.2.2.2.2.2.1.1 (by decide) rfl rfl (Nat.le_of_ble_eq_true rfl) (Nat.le_of_ble_eq_true rfl) (c_X0_redo ho.2.2.2.2.2.2.1 g1 g2 hlog (fun j hj => by have z := recF_in hj; rw [Nat.zero_add] at z; exact z)) rfl (Nat.le_of_ble_eq_true rfl) (fun s4 i => ?_)
  obtain ⟨⟨t2, i1⟩, ⟨t3, i2⟩, i3⟩ := i
  have hre := redo_all (n0 := (pBrd (hY h p)).length) (n1 := (pBrd (hY h q)).length) (g0 := gF (pBrd (hY h p))) (g1 := gF (pBrd (hY h q))) (h0 := (z0F (pBrd (hY h p)) (pBrd (hY h q))).1) (h1 := (z0F (pBrd (hY h p)) (pBrd (hY h q))).2.2.1) (R := logF (pBrd (hY h p)) (pBrd (hY h q))) 60 0 (z0F (pBrd (hY h p)) (pBrd (hY h q))) [] rfl rfl rfl
  rw [hre] at i1 i2
  refine rAload_n dX6_fightByRecord_26 rfl ?_
  refine sGetR dX6_fightByRecord_27 fl_X6_32 ho.1 (by decide) rfl ?_
  refine sCallVp (M' := mX0_result) (rm' := rmD 2 0 0) (As := []) (rest := []) dX6_fightByRecord_30 rfl mk_X0_result mi_X0_result ll_X6_170 ⟨(Nat.le_of_ble_eq_true rfl), (Nat.le_of_ble_eq_true rfl)⟩ ho.2.2.2.2.2.2.1.1 (by decide) rfl rfl (Nat.le_of_ble_eq_true rfl) (Nat.le_of_ble_eq_true rfl) (c_X0_result ho.2.2.2.2.2.2.1 i1 i2) rfl (Nat.le_of_ble_eq_true rfl) (fun v j => ?_)
  rw [hF]
  exact sIret dX6_fightByRecord_33 rfl rfl (Nat.le_of_ble_eq_true rfl) (Nat.le_of_ble_eq_true rfl) ⟨_, rfl, ⟨rfl, j, hallIs_keep hh2 (fun b h1 h2 => by rw [i3 b (by omega), g3 b (by omega)]) (fun b h1 h2 => by rw [i3 b (by omega), g3 b (by omega)]), fun b hb => by rw [i3 b (by omega), g3 b (by omega), f4 b (by omega), e3 b (by omega)]⟩⟩
set_option maxRecDepth 100000 in
set_option maxHeartbeats 4000000 in
theorem c_X6_fightPair {G : gG} {V : wV} {lo : Nat → Int64} {o : Nat} (ho : hallAt V o) {s : sgT} {h : hT} (hh : hallIs s o h) {B : Nat} (hok : hallOk B h) (hB : B ≤ 19000) (hfl : (gl G).stackTraces = false) {p q : Nat} (hp : p < 4) (hq : q < 4) (hpq : ¬ p = q) : CSv G V mX6_fightPair cX6_fightPair (rmD 8 3 18) [.ref (ad V o), .int (nI p), .int (nI q)] s lo (fun s' => hallIs s' o (pairH h p q) ∧ hFr s s' o) (fun _ => False) := by
  refine CSv.of (L := [some (.ref (ad V o)), some (.int (nI p)), some (.int (nI q)), none]) rfl (by decide +kernel) rfl (Nat.le_of_ble_eq_true rfl) rfl ?_
  have hF : fFight h (nI p) (nI q) = (0, nI (livA (pBrd (hY h p)) (pBrd (hY h q))) - nI (livB (pBrd (hY h p)) (pBrd (hY h q))), h) := by simp only [fFight, idx_nI hp (by decide), idx_nI hq (by decide), if_neg hpq]
  have hN := CS.noX (c_X6_musterSides (lo := lo) ho hh hok hB hfl (x := nI p) (y := nI q)) (hExc_no (by rw [hF]))
  refine rAload_n dX6_fightPair_0 rfl ?_
  refine rIload_n dX6_fightPair_1 rfl ?_
  refine rIload_n dX6_fightPair_2 rfl ?_
  refine sCallVv (M' := mX6_musterSides) (rm' := rmD 7 3 18) (As := [.int (nI p), .int (nI q)]) (rest := []) dX6_fightPair_3 rfl mk_X6_musterSides mi_X6_musterSides ll_X6_164 ⟨(Nat.le_of_ble_eq_true rfl), (Nat.le_of_ble_eq_true rfl)⟩ ho.1 (by decide) rfl rfl (Nat.le_of_ble_eq_true rfl) (Nat.le_of_ble_eq_true rfl) (hN) rfl (Nat.le_of_ble_eq_true rfl) (fun s1 e => ?_)
  obtain ⟨p2, q2, hp2, hq2, -, k1, k2, e1, e2, e3⟩ := e
  have k3 : p = p2 := (nI_eq (by omega) (by omega)).mp k1
  have k4 : q = q2 := (nI_eq (by omega) (by omega)).mp k2
  subst k3
  subst k4
  refine rAload_n dX6_fightPair_6 rfl ?_
  refine sGetR dX6_fightPair_7 fl_X6_32 ho.1 (by decide) rfl ?_
  refine sCallVv (M' := mX0_fightOut) (rm' := rmD 2 0 0) (As := []) (rest := []) dX6_fightPair_10 rfl mk_X0_fightOut mi_X0_fightOut ll_X6_167 ⟨(Nat.le_of_ble_eq_true rfl), (Nat.le_of_ble_eq_true rfl)⟩ ho.2.2.2.2.2.2.1.1 (by decide) rfl rfl (Nat.le_of_ble_eq_true rfl) (Nat.le_of_ble_eq_true rfl) (c_X0_fightOut ho.2.2.2.2.2.2.1 e1 e2) rfl (Nat.le_of_ble_eq_true rfl) (fun s2 f => ?_)
  obtain ⟨⟨t0, f1⟩, ⟨t1, f2⟩, f3, f4⟩ := f
  have hh2 : hallIs s2 o h := hallIs_keep hh (fun b h1 h2 => by rw [f4 b (by omega), e3 b (by omega)]) (fun b h1 h2 => by rw [f4 b (by omega), e3 b (by omega)])
  have hb2 : hFr s s2 o := fun b hb => by rw [f4 b (by omega), e3 b (by omega)]
  refine rAload_n dX6_fightPair_13 rfl ?_
  refine sGetR dX6_fightPair_14 fl_X6_32 ho.1 (by decide) rfl ?_
  refine sCallVp (M' := mX0_result) (rm' := rmD 2 0 0) (As := []) (rest := []) dX6_fightPair_17 rfl mk_X0_result mi_X0_result ll_X6_170 ⟨(Nat.le_of_ble_eq_true rfl), (Nat.le_of_ble_eq_true rfl)⟩ ho.2.2.2.2.2.2.1.1 (by decide) rfl rfl (Nat.le_of_ble_eq_true rfl) (Nat.le_of_ble_eq_true rfl) (c_X0_result ho.2.2.2.2.2.2.1 f1 f2) rfl (Nat.le_of_ble_eq_true rfl) (fun v g => ?_)
  obtain ⟨a, ha⟩ : ∃ a, a = livA (pBrd (hY h p)) (pBrd (hY h q)) := ⟨_, rfl⟩
  obtain ⟨b, hb⟩ : ∃ b, b = livB (pBrd (hY h p)) (pBrd (hY h q)) := ⟨_, rfl⟩
  have ha6 : a ≤ (pBrd (hY h p)).length := ha ▸ livN_le _
  have hb6 : b ≤ (pBrd (hY h q)).length := hb ▸ livN_le _
  have ha7 := (hok.2.2.1 p hp).2.2.2.2.2.2.2.2
  have ha8 := (hok.2.2.1 p hp).2.2.1
  have hb7 := (hok.2.2.1 q hq).2.2.2.2.2.2.2.2
  have hb8 := (hok.2.2.1 q hq).2.2.1
  obtain ⟨z1, z2, z3, z4⟩ := fight_res a (by omega) b (by omega)
  have g : v = nI a - nI b := by rw [ha, hb]; exact g
  refine tTop (w := (nI a - nI b)) g ?_
  have hPe : pairH h p q = if b < a then setY (setY h p (winY (hY h p))) q (loseY (hY h q) (a - b + 1)) else if a < b then setY (setY h q (winY (hY h q))) p (loseY (hY h p) (b - a + 1)) else setY (setY h p (wK (hY h p) 0)) q (wK (hY h q) 0) := by rw [ha, hb]; rfl
  refine rIstore_n dX6_fightPair_20 (by decide) ?_
  refine rIload_n dX6_fightPair_21 rfl ?_
  refine r_if_le (tgt := 49) dX6_fightPair_22 (by decide) (fun c_22 => ?_) (fun c_22 => ?_)
  · have hnl : ¬ b < a := z1.mp c_22
    rw [if_neg hnl] at hPe
    refine rIload_n dX6_fightPair_49 rfl ?_
    refine r_if_ge (tgt := 77) dX6_fightPair_50 (by decide) (fun c_50 => ?_) (fun c_50 => ?_)
    · have hnl2 : ¬ a < b := z2.mp c_50
      rw [if_neg hnl2] at hPe
      rw [hPe]
      refine rAload_n dX6_fightPair_77 rfl ?_
      refine sGetR dX6_fightPair_78 fl_X6_11 ho.1 (by decide) rfl ?_
      refine rIload_n dX6_fightPair_81 rfl ?_
      refine nAald (b := o + 15 + 8 * p) dX6_fightPair_82 ho.2.1 (by omega) (by omega) (hall_pl (by omega)) ?_
      refine rIconst (v := (nI (0))) dX6_fightPair_83 (by decide) ?_
      refine sPutI dX6_fightPair_84 fl_X6_179 ft_X2 rfl (ho.2.2.2.2.2.2.2 p hp).1 (by decide) rfl rfl rfl ?_
      refine rAload_n dX6_fightPair_87 rfl ?_
      refine sGetR dX6_fightPair_88 fl_X6_11 ho.1 (by decide) rfl ?_
      refine rIload_n dX6_fightPair_91 rfl ?_
      refine nAald (b := o + 15 + 8 * q) dX6_fightPair_92 ho.2.1 (by omega) (by omega) (hall_pl (by omega)) ?_
      refine rIconst (v := (nI (0))) dX6_fightPair_93 (by decide) ?_
      refine sPutI dX6_fightPair_94 fl_X6_179 ft_X2 rfl (ho.2.2.2.2.2.2.2 q hq).1 (by decide) rfl rfl rfl ?_
      exact sVret dX6_fightPair_97 rfl (Nat.le_of_ble_eq_true rfl) (Nat.le_of_ble_eq_true rfl) ⟨rfl, ⟨hallIs_P (x := wK (hY h q) 0) (hallIs_P (x := wK (hY h p) 0) (s' := (sw s2 (o + 15 + 8 * p) 3 (nI 0))) hh2 hp (plIs_wK (hh2.2.2.1 p hp)) (fun b hb => sw_a (by omega))) hq (plIs_wK (plIs_keep (hh2.2.2.1 q hq) (fun b h1 h2 => sw_a (by omega)))) (fun b hb => sw_a (by omega)), fun b hb => by rw [sw_a (by omega), sw_a (by omega), hb2 b hb]⟩⟩
    · have hlt : a < b := Classical.byContradiction (fun c => c_50 (z2.mpr c))
      rw [if_pos hlt] at hPe
      rw [hPe]
      refine rAload_n dX6_fightPair_53 rfl ?_
      refine sGetR dX6_fightPair_54 fl_X6_11 ho.1 (by decide) rfl ?_
      refine rIload_n dX6_fightPair_57 rfl ?_
      refine nAald (b := o + 15 + 8 * q) dX6_fightPair_58 ho.2.1 (by omega) (by omega) (hall_pl (by omega)) ?_
      refine sCallVv (M' := mX2_win) (rm' := rmD 1 0 0) (As := []) (rest := []) dX6_fightPair_59 rfl mk_X2_win mi_X2_win ll_X6_221 ⟨(Nat.le_of_ble_eq_true rfl), (Nat.le_of_ble_eq_true rfl)⟩ (ho.2.2.2.2.2.2.2 q hq).1 (by decide) rfl rfl (Nat.le_of_ble_eq_true rfl) (Nat.le_of_ble_eq_true rfl) (c_X2_win (ho.2.2.2.2.2.2.2 q hq) (hh2.2.2.1 q hq) (hok.2.2.1 q hq)) rfl (Nat.le_of_ble_eq_true rfl) (fun s3 i => ?_)
      obtain ⟨i1, i2⟩ := i
      have hh3 := hallIs_P (x := winY (hY h q)) hh2 hq i1 (fun b hb => i2 b (by omega))
      refine rAload_n dX6_fightPair_62 rfl ?_
      refine sGetR dX6_fightPair_63 fl_X6_11 ho.1 (by decide) rfl ?_
      refine rIload_n dX6_fightPair_66 rfl ?_
      refine nAald (b := o + 15 + 8 * p) dX6_fightPair_67 ho.2.1 (by omega) (by omega) (hall_pl (by omega)) ?_
      refine rIconst (v := (nI (1))) dX6_fightPair_68 (by decide) ?_
      refine rIload_n dX6_fightPair_69 rfl ?_
      refine rIsub dX6_fightPair_70 ?_
      refine tTop (w := (nI (b - a + 1))) (z4 hlt) ?_
      refine sCallVv (M' := mX2_lose) (rm' := rmD 1 0 0) (As := [.int (nI (b - a + 1))]) (rest := []) dX6_fightPair_71 rfl mk_X2_lose mi_X2_lose ll_X6_224 ⟨(Nat.le_of_ble_eq_true rfl), (Nat.le_of_ble_eq_true rfl)⟩ (ho.2.2.2.2.2.2.2 p hp).1 (by decide) rfl rfl (Nat.le_of_ble_eq_true rfl) (Nat.le_of_ble_eq_true rfl) (c_X2_lose (ho.2.2.2.2.2.2.2 p hp) (plIs_keep (hh2.2.2.1 p hp) (fun b h1 h2 => i2 b (by omega))) (hok.2.2.1 p hp) (by omega)) rfl (Nat.le_of_ble_eq_true rfl) (fun s4 j => ?_)
      obtain ⟨j1, j2⟩ := j
      refine rGoto (tgt := 97) dX6_fightPair_74 (by decide) ?_
      exact sVret dX6_fightPair_97 rfl (Nat.le_of_ble_eq_true rfl) (Nat.le_of_ble_eq_true rfl) ⟨rfl, ⟨hallIs_P (x := loseY (hY h p) (b - a + 1)) hh3 hp j1 (fun b hb => j2 b (by omega)), fun b hb => by rw [j2 b (by omega), i2 b (by omega), hb2 b hb]⟩⟩
  · have hlt : b < a := Classical.byContradiction (fun c => c_22 (z1.mpr c))
    rw [if_pos hlt] at hPe
    rw [hPe]
    refine rAload_n dX6_fightPair_25 rfl ?_
    refine sGetR dX6_fightPair_26 fl_X6_11 ho.1 (by decide) rfl ?_
    refine rIload_n dX6_fightPair_29 rfl ?_
    refine nAald (b := o + 15 + 8 * p) dX6_fightPair_30 ho.2.1 (by omega) (by omega) (hall_pl (by omega)) ?_
    refine sCallVv (M' := mX2_win) (rm' := rmD 1 0 0) (As := []) (rest := []) dX6_fightPair_31 rfl mk_X2_win mi_X2_win ll_X6_221 ⟨(Nat.le_of_ble_eq_true rfl), (Nat.le_of_ble_eq_true rfl)⟩ (ho.2.2.2.2.2.2.2 p hp).1 (by decide) rfl rfl (Nat.le_of_ble_eq_true rfl) (Nat.le_of_ble_eq_true rfl) (c_X2_win (ho.2.2.2.2.2.2.2 p hp) (hh2.2.2.1 p hp) (hok.2.2.1 p hp)) rfl (Nat.le_of_ble_eq_true rfl) (fun s3 i => ?_)
    obtain ⟨i1, i2⟩ := i
    have hh3 := hallIs_P (x := winY (hY h p)) hh2 hp i1 (fun b hb => i2 b (by omega))
    refine rAload_n dX6_fightPair_34 rfl ?_
    refine sGetR dX6_fightPair_35 fl_X6_11 ho.1 (by decide) rfl ?_
    refine rIload_n dX6_fightPair_38 rfl ?_
    refine nAald (b := o + 15 + 8 * q) dX6_fightPair_39 ho.2.1 (by omega) (by omega) (hall_pl (by omega)) ?_
    refine rIload_n dX6_fightPair_40 rfl ?_
    refine rIconst (v := (nI (1))) dX6_fightPair_41 (by decide) ?_
    refine rIadd dX6_fightPair_42 ?_
    refine tTop (w := (nI (a - b + 1))) (z3 hlt) ?_
    refine sCallVv (M' := mX2_lose) (rm' := rmD 1 0 0) (As := [.int (nI (a - b + 1))]) (rest := []) dX6_fightPair_43 rfl mk_X2_lose mi_X2_lose ll_X6_224 ⟨(Nat.le_of_ble_eq_true rfl), (Nat.le_of_ble_eq_true rfl)⟩ (ho.2.2.2.2.2.2.2 q hq).1 (by decide) rfl rfl (Nat.le_of_ble_eq_true rfl) (Nat.le_of_ble_eq_true rfl) (c_X2_lose (ho.2.2.2.2.2.2.2 q hq) (plIs_keep (hh2.2.2.1 q hq) (fun b h1 h2 => i2 b (by omega))) (hok.2.2.1 q hq) (by omega)) rfl (Nat.le_of_ble_eq_true rfl) (fun s4 j => ?_)
    obtain ⟨j1, j2⟩ := j
    refine rGoto (tgt := 97) dX6_fightPair_46 (by decide) ?_
    exact sVret dX6_fightPair_97 rfl (Nat.le_of_ble_eq_true rfl) (Nat.le_of_ble_eq_true rfl) ⟨rfl, ⟨hallIs_P (x := loseY (hY h q) (a - b + 1)) hh3 hq j1 (fun b hb => j2 b (by omega)), fun b hb => by rw [j2 b (by omega), i2 b (by omega), hb2 b hb]⟩⟩
set_option maxRecDepth 100000 in
set_option maxHeartbeats 4000000 in
theorem c_X6_fillUnlockedShops {G : gG} {V : wV} {lo : Nat → Int64} {o : Nat} (ho : hallAt V o) {s : sgT} {h : hT} (hh : hallIs s o h) {B : Nat} (hok : hallOk B h) (hB : B ≤ 19000)  : CSv G V mX6_fillUnlockedShops cX6_fillUnlockedShops (rmD 5 0 0) [.ref (ad V o)] s lo (fun s' => hallIs s' o (fuH h 4) ∧ hFr s s' o) (fun _ => False) := by
  refine CSv.of (L := [some (.ref (ad V o)), none, none]) rfl (by decide +kernel) rfl (Nat.le_of_ble_eq_true rfl) rfl ?_
  refine rIconst (v := (nI (0))) dX6_fillUnlockedShops_0 (by decide) ?_
  refine rIstore_n dX6_fillUnlockedShops_1 (by decide) ?_
  refine loopW (σ := sgT) (4) (fun i y => [some (.ref (ad V o)), some (.int (nI i)), none]) (fun i y => y) (fun i y => hallIs y o (fuH h i) ∧ hFr s y o) (0) s (by omega) ⟨hh, hFr.refl⟩ (fun i y hi hinv ih => ?_)
  obtain ⟨v1, v2⟩ := hinv
  refine rIload_n dX6_fillUnlockedShops_2 rfl ?_
  refine rIconst (v := (nI (4))) dX6_fillUnlockedShops_3 (by decide) ?_
  refine r_icmp_ge (tgt := 37) dX6_fillUnlockedShops_4 (by decide) (fun c_4 => ?_) (fun c_4 => ?_)
  · have c_4 : 4 ≤ i := (nI_leI (by omega) (by omega)).mp c_4
    have e : i = 4 := by omega
    subst e
    exact sVret dX6_fillUnlockedShops_37 rfl (Nat.le_of_ble_eq_true rfl) (Nat.le_of_ble_eq_true rfl) ⟨rfl, ⟨v1, v2⟩⟩
  · have c_4 : ¬ (4 ≤ i) := fun h => c_4 ((nI_leI (by omega) (by omega)).mpr h)
    have y1 := v1.2.2.1 i (by omega)
    have hk := hallOk_fu hok i (by omega)
    cases hl : pLck (hY (fuH h i) i)
    · have hz : y (o + 15 + 8 * i) 4 = nI 0 := by rw [y1.2.2.2.2.1, hl]; rfl
      refine rAload_n dX6_fillUnlockedShops_7 rfl ?_
      refine sGetR dX6_fillUnlockedShops_8 fl_X6_11 ho.1 (by decide) rfl ?_
      refine rIload_n dX6_fillUnlockedShops_11 rfl ?_
      refine nAald (b := o + 15 + 8 * i) dX6_fillUnlockedShops_12 ho.2.1 (by omega) (by omega) (hall_pl (by omega)) ?_
      refine rAstore_n dX6_fillUnlockedShops_13 (by decide) ?_
      refine rAload_n dX6_fillUnlockedShops_14 rfl ?_
      refine sGetI (x := (nI (0))) dX6_fillUnlockedShops_15 fl_X6_70 (ho.2.2.2.2.2.2.2 i (by omega)).1 (by decide) rfl (by rw [hz]) ?_
      refine r_if_ne (tgt := 26) dX6_fillUnlockedShops_18 (by decide) (fun c_18 => ?_) (fun c_18 => ?_)
      · have c_18 : ¬ (0 = 0) := fun h => c_18 ((nz_eq (by omega)).mpr h)
        exact absurd rfl c_18
      · have c_18 : 0 = 0 := (nz_eq (by omega)).mp c_18
        refine rAload_n dX6_fillUnlockedShops_21 rfl ?_
        refine rAload_n dX6_fillUnlockedShops_22 rfl ?_
        refine sCallVv (M' := mX6_fillShop) (rm' := rmD 4 0 0) (As := [.ref (ad V (o + 15 + 8 * i))]) (rest := []) dX6_fillUnlockedShops_23 rfl mk_X6_fillShop mi_X6_fillShop ll_X6_66 ⟨(Nat.le_of_ble_eq_true rfl), (Nat.le_of_ble_eq_true rfl)⟩ ho.1 (by decide) rfl rfl (Nat.le_of_ble_eq_true rfl) (Nat.le_of_ble_eq_true rfl) (c_X6_fillShop ho v1 hk (by omega) (by omega) rfl) rfl (Nat.le_of_ble_eq_true rfl) (fun s1 e => ?_)
        obtain ⟨e1, e2⟩ := e
        have hs : fuH h (i + 1) = setY (fillH (fuH h i) i) i (wC (hY (fillH (fuH h i) i) i) false) := by simp only [fuH, hl]; rfl
        refine rAload_n dX6_fillUnlockedShops_26 rfl ?_
        refine rIconst (v := (nI (0))) dX6_fillUnlockedShops_27 (by decide) ?_
        refine sPutI dX6_fillUnlockedShops_28 fl_X6_70 ft_X2 rfl (ho.2.2.2.2.2.2.2 i (by omega)).1 (by decide) rfl rfl rfl ?_
        refine rIinc (v := (nI (i + 1))) dX6_fillUnlockedShops_31 rfl (by first | exact nI_add _ _ | rfl) (by decide) ?_
        refine rGoto (tgt := 2) dX6_fillUnlockedShops_34 (by decide) ?_
        refine rForget (L := [some (.ref (ad V o)), some (.int (nI (i + 1))), some (.ref (ad V (o + 15 + 8 * i)))]) (L' := [some (.ref (ad V o)), some (.int (nI (i + 1))), none]) (by exact ⟨rfl, ⟨rfl, trivial⟩⟩) ?_
        exact ih (by omega) (sw s1 (o + 15 + 8 * i) 4 (nI (0))) ⟨by rw [hs]; exact hallIs_P e1 (by omega) (plIs_wC (e1.2.2.1 i (by omega)) rfl) (fun b hb => sw_a (by omega)), fun b hb => by rw [sw_a (by omega)]; exact (v2.trans e2) b hb⟩
    · have hz : y (o + 15 + 8 * i) 4 = nI 1 := by rw [y1.2.2.2.2.1, hl]; rfl
      refine rAload_n dX6_fillUnlockedShops_7 rfl ?_
      refine sGetR dX6_fillUnlockedShops_8 fl_X6_11 ho.1 (by decide) rfl ?_
      refine rIload_n dX6_fillUnlockedShops_11 rfl ?_
      refine nAald (b := o + 15 + 8 * i) dX6_fillUnlockedShops_12 ho.2.1 (by omega) (by omega) (hall_pl (by omega)) ?_
      refine rAstore_n dX6_fillUnlockedShops_13 (by decide) ?_
      refine rAload_n dX6_fillUnlockedShops_14 rfl ?_
      refine sGetI (x := (nI (1))) dX6_fillUnlockedShops_15 fl_X6_70 (ho.2.2.2.2.2.2.2 i (by omega)).1 (by decide) rfl (by rw [hz]) ?_
      refine r_if_ne (tgt := 26) dX6_fillUnlockedShops_18 (by decide) (fun c_18 => ?_) (fun c_18 => ?_)
      · have c_18 : ¬ (1 = 0) := fun h => c_18 ((nz_eq (by omega)).mpr h)
        have hs : fuH h (i + 1) = setY (fuH h i) i (wC (hY (fuH h i) i) false) := by simp only [fuH, hl]; rfl
        refine rAload_n dX6_fillUnlockedShops_26 rfl ?_
        refine rIconst (v := (nI (0))) dX6_fillUnlockedShops_27 (by decide) ?_
        refine sPutI dX6_fillUnlockedShops_28 fl_X6_70 ft_X2 rfl (ho.2.2.2.2.2.2.2 i (by omega)).1 (by decide) rfl rfl rfl ?_
        refine rIinc (v := (nI (i + 1))) dX6_fillUnlockedShops_31 rfl (by first | exact nI_add _ _ | rfl) (by decide) ?_
        refine rGoto (tgt := 2) dX6_fillUnlockedShops_34 (by decide) ?_
        refine rForget (L := [some (.ref (ad V o)), some (.int (nI (i + 1))), some (.ref (ad V (o + 15 + 8 * i)))]) (L' := [some (.ref (ad V o)), some (.int (nI (i + 1))), none]) (by exact ⟨rfl, ⟨rfl, trivial⟩⟩) ?_
        exact ih (by omega) (sw y (o + 15 + 8 * i) 4 (nI (0))) ⟨by rw [hs]; exact hallIs_P v1 (by omega) (plIs_wC (v1.2.2.1 i (by omega)) rfl) (fun b hb => sw_a (by omega)), fun b hb => by rw [sw_a (by omega)]; exact v2 b hb⟩
      · have c_18 : 1 = 0 := (nz_eq (by omega)).mp c_18
        exact absurd c_18 (by decide)
set_option maxRecDepth 100000 in
set_option maxHeartbeats 4000000 in
theorem c_X6_playersWithHealth {G : gG} {V : wV} {lo : Nat → Int64} {o : Nat} (ho : hallAt V o) {s : sgT} {h : hT} (hh : hallIs s o h) {B : Nat} (hok : hallOk B h) (hB : B ≤ 19500)  : CSp G V mX6_playersWithHealth cX6_playersWithHealth (rmD 1 0 0) [.ref (ad V o)] s lo (fun v => v = nI (aliN h 4)) (fun _ => False) := by
  refine CSp.of (L := [some (.ref (ad V o)), none, none]) rfl (by decide +kernel) rfl (Nat.le_of_ble_eq_true rfl) rfl ?_
  refine rIconst (v := (nI (0))) dX6_playersWithHealth_0 (by decide) ?_
  refine rIstore_n dX6_playersWithHealth_1 (by decide) ?_
  refine rIconst (v := (nI (0))) dX6_playersWithHealth_2 (by decide) ?_
  refine rIstore_n dX6_playersWithHealth_3 (by decide) ?_
  refine loopW (σ := Unit) (4) (fun i _ => [some (.ref (ad V o)), some (.int (nI (aliN h i))), some (.int (nI i))]) (fun i _ => s) (fun i _ => True) (0) () (by omega) trivial (fun i _ hi hinv ih => ?_)
  refine rIload_n dX6_playersWithHealth_4 rfl ?_
  refine rIconst (v := (nI (4))) dX6_playersWithHealth_5 (by decide) ?_
  refine r_icmp_ge (tgt := 30) dX6_playersWithHealth_6 (by decide) (fun c_6 => ?_) (fun c_6 => ?_)
  · have c_6 : 4 ≤ i := (nI_leI (by omega) (by omega)).mp c_6
    have e : i = 4 := by omega
    subst e
    refine rIload_n dX6_playersWithHealth_30 rfl ?_
    exact sIret dX6_playersWithHealth_31 rfl rfl (Nat.le_of_ble_eq_true rfl) (Nat.le_of_ble_eq_true rfl) ⟨_, rfl, rfl, rfl⟩
  · have c_6 : ¬ (4 ≤ i) := fun h => c_6 ((nI_leI (by omega) (by omega)).mpr h)
    have h20 := (hok.2.2.1 i (by omega)).2.2.2.1
    have hz := ih (by omega) () trivial
    simp only [aliN] at hz
    refine rAload_n dX6_playersWithHealth_9 rfl ?_
    refine sGetR dX6_playersWithHealth_10 fl_X6_11 ho.1 (by decide) rfl ?_
    refine rIload_n dX6_playersWithHealth_13 rfl ?_
    refine nAald (b := o + 15 + 8 * i) dX6_playersWithHealth_14 ho.2.1 (by omega) (by omega) (hall_pl (by omega)) ?_
    refine sGetI (x := (nI (pHth (hY h i)))) dX6_playersWithHealth_15 fl_X6_176 (ho.2.2.2.2.2.2.2 i (by omega)).1 (by decide) rfl (by rw [(hh.2.2.1 i (by omega)).2.2.1]) ?_
    refine r_if_le (tgt := 24) dX6_playersWithHealth_18 (by decide) (fun c_18 => ?_) (fun c_18 => ?_)
    · have c_18 : (pHth (hY h i)) = 0 := (nz_le (by omega)).mp c_18
      rw [if_pos c_18, Nat.add_zero] at hz
      refine rIinc (v := (nI (i + 1))) dX6_playersWithHealth_24 rfl (by first | exact nI_add _ _ | rfl) (by decide) ?_
      refine rGoto (tgt := 4) dX6_playersWithHealth_27 (by decide) ?_
      exact hz
    · have c_18 : ¬ ((pHth (hY h i)) = 0) := fun h => c_18 ((nz_le (by omega)).mpr h)
      rw [if_neg c_18] at hz
      refine rIinc (v := (nI (aliN h i + 1))) dX6_playersWithHealth_21 rfl (by first | exact nI_add _ _ | rfl) (by decide) ?_
      refine rIinc (v := (nI (i + 1))) dX6_playersWithHealth_24 rfl (by first | exact nI_add _ _ | rfl) (by decide) ?_
      refine rGoto (tgt := 4) dX6_playersWithHealth_27 (by decide) ?_
      exact hz
set_option maxRecDepth 100000 in
set_option maxHeartbeats 4000000 in
theorem c_X6_round {G : gG} {V : wV} {lo : Nat → Int64} {o : Nat} (ho : hallAt V o) {s : sgT} {h : hT} (hh : hallIs s o h) {B : Nat} (hok : hallOk B h) (hB : B ≤ 19000) (hfl : (gl G).stackTraces = false)  : CSi G V mX6_round cX6_round (rmD 9 9 60) [.ref (ad V o)] s lo (fun v s' => hPost o s (fRound h) v s') (hExc [xIS] h (fRound h)) := by
  refine CSi.of (L := [some (.ref (ad V o)), none, none]) rfl (by decide +kernel) rfl (Nat.le_of_ble_eq_true rfl) rfl ?_
  have hr := hok.2.2.2
  refine rAload_n dX6_round_0 rfl ?_
  refine sGetI (x := (nI (hR h))) dX6_round_1 fl_X6_143 ho.1 (by decide) rfl (by rw [hh.2.2.2]) ?_
  refine rSipush (v := (nI (200))) dX6_round_4 (by decide) ?_
  refine r_icmp_lt (tgt := 20) dX6_round_7 (by decide) (fun c_7 => ?_) (fun c_7 => ?_)
  · have c_7 : (hR h) < 200 := (nI_ltI (by omega) (by omega)).mp c_7
    have hF : fRound h = (0, nI (aliN (fuH (eaH (rdH h) 4) 4) 4), hQ (fuH (eaH (rdH h) 4) 4), hP (fuH (eaH (rdH h) 4) 4), hY (fuH (eaH (rdH h) 4) 4), hR (fuH (eaH (rdH h) 4) 4) + 1) := by simp only [fRound, if_neg (show ¬ 200 ≤ hR h by omega)]
    rw [hF]
    rcases (by omega : hR h % 3 = 0 ∨ hR h % 3 = 1 ∨ hR h % 3 = 2) with hm | hm | hm
    · have hrd : rdH h = pairH (pairH h 0 1) 2 3 := by unfold rdH; rw [if_pos hm]; rfl
      refine rAload_n dX6_round_20 rfl ?_
      refine sGetI (x := (nI (hR h))) dX6_round_21 fl_X6_143 ho.1 (by decide) rfl (by rw [hh.2.2.2]) ?_
      refine rIconst (v := (nI (3))) dX6_round_24 (by decide) ?_
      refine nIrem dX6_round_25 (by omega) (by decide) (by decide) ?_
      refine tTop (w := (nI (0))) (congrArg nI hm) ?_
      refine rIconst (v := (nI (4))) dX6_round_26 (by decide) ?_
      refine nImul dX6_round_27 ?_
      refine tTop (w := (nI (0))) rfl ?_
      refine rIstore_n dX6_round_28 (by decide) ?_
      refine rIconst (v := (nI (0))) dX6_round_29 (by decide) ?_
      refine rIstore_n dX6_round_30 (by decide) ?_
      refine rIload_n dX6_round_31 rfl ?_
      refine rIconst (v := (nI (4))) dX6_round_32 (by decide) ?_
      refine r_icmp_ge (tgt := 62) dX6_round_33 (by decide) (fun c_33 => ?_) (fun c_33 => ?_)
      · have c_33 : 4 ≤ 0 := (nI_leI (by omega) (by omega)).mp c_33
        exact absurd c_33 (by omega)
      · have c_33 : ¬ (4 ≤ 0) := fun h => c_33 ((nI_leI (by omega) (by omega)).mpr h)
        refine rAload_n dX6_round_36 rfl ?_
        refine rGets dX6_round_37 gs_P ?_
        refine rIload_n dX6_round_40 rfl ?_
        refine rIload_n dX6_round_41 rfl ?_
        refine nIadd dX6_round_42 ?_
        refine tTop (w := (nI (0))) rfl ?_
        refine rTald (i := nI 0) (x := nI 0) dX6_round_43 (vp_in_nI (by decide) (by decide)) (by rw [nI_clamp (by decide)]; rfl) ?_
        refine rGets dX6_round_44 gs_P ?_
        refine rIload_n dX6_round_47 rfl ?_
        refine rIload_n dX6_round_48 rfl ?_
        refine nIadd dX6_round_49 ?_
        refine rIconst (v := (nI (1))) dX6_round_50 (by decide) ?_
        refine nIadd dX6_round_51 ?_
        refine tTop (w := (nI (1))) rfl ?_
        refine rTald (i := nI 1) (x := nI 1) dX6_round_52 (vp_in_nI (by decide) (by decide)) (by rw [nI_clamp (by decide)]; rfl) ?_
        refine sCallVv (M' := mX6_fightPair) (rm' := rmD 8 3 18) (As := [.int (nI 0), .int (nI 1)]) (rest := []) dX6_round_53 rfl mk_X6_fightPair mi_X6_fightPair ll_X6_151 ⟨(Nat.le_of_ble_eq_true rfl), (Nat.le_of_ble_eq_true rfl)⟩ ho.1 (by decide) rfl rfl (Nat.le_of_ble_eq_true rfl) (Nat.le_of_ble_eq_true rfl) (c_X6_fightPair ho hh hok hB hfl (p := 0) (q := 1) (by decide) (by decide) (by decide)) rfl (Nat.le_of_ble_eq_true rfl) (fun f0 e0 => ?_)
        obtain ⟨d0, g0⟩ := e0
        have k0 := hallOk_pair (p := 0) (q := 1) hok (by decide) (by decide)
        refine rIinc (v := (nI (0 + 2))) dX6_round_56 rfl (by first | exact nI_add _ _ | rfl) (by decide) ?_
        refine rGoto (tgt := 31) dX6_round_59 (by decide) ?_
        refine rIload_n dX6_round_31 rfl ?_
        refine rIconst (v := (nI (4))) dX6_round_32 (by decide) ?_
        refine r_icmp_ge (tgt := 62) dX6_round_33 (by decide) (fun c_33 => ?_) (fun c_33 => ?_)
        · have c_33 : 4 ≤ 2 := (nI_leI (by omega) (by omega)).mp c_33
          exact absurd c_33 (by omega)
        · have c_33 : ¬ (4 ≤ 2) := fun h => c_33 ((nI_leI (by omega) (by omega)).mpr h)
          refine rAload_n dX6_round_36 rfl ?_
          refine rGets dX6_round_37 gs_P ?_
          refine rIload_n dX6_round_40 rfl ?_
          refine rIload_n dX6_round_41 rfl ?_
          refine nIadd dX6_round_42 ?_
          refine tTop (w := (nI (2))) rfl ?_
          refine rTald (i := nI 2) (x := nI 2) dX6_round_43 (vp_in_nI (by decide) (by decide)) (by rw [nI_clamp (by decide)]; rfl) ?_
          refine rGets dX6_round_44 gs_P ?_
          refine rIload_n dX6_round_47 rfl ?_
          refine rIload_n dX6_round_48 rfl ?_
          refine nIadd dX6_round_49 ?_
          refine rIconst (v := (nI (1))) dX6_round_50 (by decide) ?_
          refine nIadd dX6_round_51 ?_
          refine tTop (w := (nI (3))) rfl ?_
          refine rTald (i := nI 3) (x := nI 3) dX6_round_52 (vp_in_nI (by decide) (by decide)) (by rw [nI_clamp (by decide)]; rfl) ?_
          refine sCallVv (M' := mX6_fightPair) (rm' := rmD 8 3 18) (As := [.int (nI 2), .int (nI 3)]) (rest := []) dX6_round_53 rfl mk_X6_fightPair mi_X6_fightPair ll_X6_151 ⟨(Nat.le_of_ble_eq_true rfl), (Nat.le_of_ble_eq_true rfl)⟩ ho.1 (by decide) rfl rfl (Nat.le_of_ble_eq_true rfl) (Nat.le_of_ble_eq_true rfl) (c_X6_fightPair ho d0 k0 hB hfl (p := 2) (q := 3) (by decide) (by decide) (by decide)) rfl (Nat.le_of_ble_eq_true rfl) (fun f1 e1 => ?_)
          obtain ⟨d1, g1⟩ := e1
          have k1 := hallOk_pair (p := 2) (q := 3) k0 (by decide) (by decide)
          refine rIinc (v := (nI (2 + 2))) dX6_round_56 rfl (by first | exact nI_add _ _ | rfl) (by decide) ?_
          refine rGoto (tgt := 31) dX6_round_59 (by decide) ?_
          refine rIload_n dX6_round_31 rfl ?_
          refine rIconst (v := (nI (4))) dX6_round_32 (by decide) ?_
          refine r_icmp_ge (tgt := 62) dX6_round_33 (by decide) (fun c_33 => ?_) (fun c_33 => ?_)
          · have c_33 : 4 ≤ 4 := (nI_leI (by omega) (by omega)).mp c_33
            refine rIconst (v := (nI (0))) dX6_round_62 (by decide) ?_
            refine rIstore_n dX6_round_63 (by decide) ?_
            rw [← hrd] at d1 k1
            refine loopW (σ := sgT) (4) (fun i y => [some (.ref (ad V o)), some (.int (nI 0)), some (.int (nI i))]) (fun i y => y) (fun i y => hallIs y o (eaH (rdH h) i) ∧ hFr s y o) (0) f1 (by omega) ⟨d1, g0.trans g1⟩ (fun i y hi hinv ih => ?_)
            obtain ⟨v1, v2⟩ := hinv
            refine rIload_n dX6_round_64 rfl ?_
            refine rIconst (v := (nI (4))) dX6_round_65 (by decide) ?_
            refine r_icmp_ge (tgt := 84) dX6_round_66 (by decide) (fun c_66 => ?_) (fun c_66 => ?_)
            · have c_66 : 4 ≤ i := (nI_leI (by omega) (by omega)).mp c_66
              have e : i = 4 := by omega
              subst e
              have hk := hallOk_ea k1 4 (by omega)
              refine rAload_n dX6_round_84 rfl ?_
              refine sCallVv (M' := mX6_fillUnlockedShops) (rm' := rmD 5 0 0) (As := []) (rest := []) dX6_round_85 rfl mk_X6_fillUnlockedShops mi_X6_fillUnlockedShops ll_X6_157 ⟨(Nat.le_of_ble_eq_true rfl), (Nat.le_of_ble_eq_true rfl)⟩ ho.1 (by decide) rfl rfl (Nat.le_of_ble_eq_true rfl) (Nat.le_of_ble_eq_true rfl) (c_X6_fillUnlockedShops ho v1 hk hB) rfl (Nat.le_of_ble_eq_true rfl) (fun w1 e2 => ?_)
              obtain ⟨d2, g2⟩ := e2
              have hk2 := hallOk_fu hk 4 (by omega)
              refine rAload_n dX6_round_88 rfl ?_
              refine rDup dX6_round_89 rfl ?_
              refine sGetI (x := (nI (hR (fuH (eaH (rdH h) 4) 4)))) dX6_round_90 fl_X6_143 ho.1 (by decide) rfl (by rw [d2.2.2.2]) ?_
              refine rIconst (v := (nI (1))) dX6_round_93 (by decide) ?_
              refine nIadd dX6_round_94 ?_
              refine sPutI dX6_round_95 fl_X6_143 ft_X6 rfl ho.1 (by decide) rfl rfl rfl ?_
              refine rAload_n dX6_round_98 rfl ?_
              have d3 : hallIs (sw w1 o 4 (nI ((hR (fuH (eaH (rdH h) 4) 4)) + 1))) o (hQ (fuH (eaH (rdH h) 4) 4), hP (fuH (eaH (rdH h) 4) 4), hY (fuH (eaH (rdH h) 4) 4), hR (fuH (eaH (rdH h) 4) 4) + 1) := ⟨numsIs_keep d2.1 (sw_a (by omega)) (sw_a (by omega)), poolIs_keep d2.2.1 (sw_a (by omega)), fun p hp => plIs_keep (d2.2.2.1 p hp) (fun b h1 h2 => sw_a (by omega)), sw_s⟩
              have hal : aliN (hQ (fuH (eaH (rdH h) 4) 4), hP (fuH (eaH (rdH h) 4) 4), hY (fuH (eaH (rdH h) 4) 4), hR (fuH (eaH (rdH h) 4) 4) + 1) 4 = aliN (fuH (eaH (rdH h) 4) 4) 4 := rfl
              refine sCallVp (M' := mX6_playersWithHealth) (rm' := rmD 1 0 0) (As := []) (rest := []) dX6_round_99 rfl mk_X6_playersWithHealth mi_X6_playersWithHealth ll_X6_160 ⟨(Nat.le_of_ble_eq_true rfl), (Nat.le_of_ble_eq_true rfl)⟩ ho.1 (by decide) rfl rfl (Nat.le_of_ble_eq_true rfl) (Nat.le_of_ble_eq_true rfl) (c_X6_playersWithHealth ho d3 (B := B + 3 * 4) (hallRr hk2 (by rw [hallR_fu, hallR_ea, hallR_rd]; omega)) (by omega)) rfl (Nat.le_of_ble_eq_true rfl) (fun v e4 => ?_)
              exact sIret dX6_round_102 rfl rfl (Nat.le_of_ble_eq_true rfl) (Nat.le_of_ble_eq_true rfl) ⟨_, rfl, ⟨rfl, e4.trans (congrArg nI hal), d3, fun b hb => by rw [sw_a (by omega), g2 b hb, v2 b hb]⟩⟩
            · have c_66 : ¬ (4 ≤ i) := fun h => c_66 ((nI_leI (by omega) (by omega)).mpr h)
              refine rAload_n dX6_round_69 rfl ?_
              refine sGetR dX6_round_70 fl_X6_11 ho.1 (by decide) rfl ?_
              refine rIload_n dX6_round_73 rfl ?_
              refine nAald (b := o + 15 + 8 * i) dX6_round_74 ho.2.1 (by omega) (by omega) (hall_pl (by omega)) ?_
              refine sCallVv (M' := mX2_earn) (rm' := rmD 2 0 0) (As := []) (rest := []) dX6_round_75 rfl mk_X2_earn mi_X2_earn ll_X6_154 ⟨(Nat.le_of_ble_eq_true rfl), (Nat.le_of_ble_eq_true rfl)⟩ (ho.2.2.2.2.2.2.2 i (by omega)).1 (by decide) rfl rfl (Nat.le_of_ble_eq_true rfl) (Nat.le_of_ble_eq_true rfl) (c_X2_earn (ho.2.2.2.2.2.2.2 i (by omega)) (v1.2.2.1 i (by omega)) ((hallOk_ea k1 i (by omega)).2.2.1 i (by omega))) rfl (Nat.le_of_ble_eq_true rfl) (fun w2 e5 => ?_)
              obtain ⟨d5, g5⟩ := e5
              refine rIinc (v := (nI (i + 1))) dX6_round_78 rfl (by first | exact nI_add _ _ | rfl) (by decide) ?_
              refine rGoto (tgt := 64) dX6_round_81 (by decide) ?_
              exact ih (by omega) w2 ⟨hallIs_P v1 (by omega) d5 (fun b hb => g5 b (by omega)), fun b hb => by rw [g5 b (by omega)]; exact v2 b hb⟩
          · have c_33 : ¬ (4 ≤ 4) := fun h => c_33 ((nI_leI (by omega) (by omega)).mpr h)
            exact absurd c_33 (by omega)
    · have hrd : rdH h = pairH (pairH h 0 2) 1 3 := by unfold rdH; rw [if_neg (by omega), if_pos hm]; rfl
      refine rAload_n dX6_round_20 rfl ?_
      refine sGetI (x := (nI (hR h))) dX6_round_21 fl_X6_143 ho.1 (by decide) rfl (by rw [hh.2.2.2]) ?_
      refine rIconst (v := (nI (3))) dX6_round_24 (by decide) ?_
      refine nIrem dX6_round_25 (by omega) (by decide) (by decide) ?_
      refine tTop (w := (nI (1))) (congrArg nI hm) ?_
      refine rIconst (v := (nI (4))) dX6_round_26 (by decide) ?_
      refine nImul dX6_round_27 ?_
      refine tTop (w := (nI (4))) rfl ?_
      refine rIstore_n dX6_round_28 (by decide) ?_
      refine rIconst (v := (nI (0))) dX6_round_29 (by decide) ?_
      refine rIstore_n dX6_round_30 (by decide) ?_
      refine rIload_n dX6_round_31 rfl ?_
      refine rIconst (v := (nI (4))) dX6_round_32 (by decide) ?_
      refine r_icmp_ge (tgt := 62) dX6_round_33 (by decide) (fun c_33 => ?_) (fun c_33 => ?_)
      · have c_33 : 4 ≤ 0 := (nI_leI (by omega) (by omega)).mp c_33
        exact absurd c_33 (by omega)
      · have c_33 : ¬ (4 ≤ 0) := fun h => c_33 ((nI_leI (by omega) (by omega)).mpr h)
        refine rAload_n dX6_round_36 rfl ?_
        refine rGets dX6_round_37 gs_P ?_
        refine rIload_n dX6_round_40 rfl ?_
        refine rIload_n dX6_round_41 rfl ?_
        refine nIadd dX6_round_42 ?_
        refine tTop (w := (nI (4))) rfl ?_
        refine rTald (i := nI 4) (x := nI 0) dX6_round_43 (vp_in_nI (by decide) (by decide)) (by rw [nI_clamp (by decide)]; rfl) ?_
        refine rGets dX6_round_44 gs_P ?_
        refine rIload_n dX6_round_47 rfl ?_
        refine rIload_n dX6_round_48 rfl ?_
        refine nIadd dX6_round_49 ?_
        refine rIconst (v := (nI (1))) dX6_round_50 (by decide) ?_
        refine nIadd dX6_round_51 ?_
        refine tTop (w := (nI (5))) rfl ?_
        refine rTald (i := nI 5) (x := nI 2) dX6_round_52 (vp_in_nI (by decide) (by decide)) (by rw [nI_clamp (by decide)]; rfl) ?_
        refine sCallVv (M' := mX6_fightPair) (rm' := rmD 8 3 18) (As := [.int (nI 0), .int (nI 2)]) (rest := []) dX6_round_53 rfl mk_X6_fightPair mi_X6_fightPair ll_X6_151 ⟨(Nat.le_of_ble_eq_true rfl), (Nat.le_of_ble_eq_true rfl)⟩ ho.1 (by decide) rfl rfl (Nat.le_of_ble_eq_true rfl) (Nat.le_of_ble_eq_true rfl) (c_X6_fightPair ho hh hok hB hfl (p := 0) (q := 2) (by decide) (by decide) (by decide)) rfl (Nat.le_of_ble_eq_true rfl) (fun f0 e0 => ?_)
        obtain ⟨d0, g0⟩ := e0
        have k0 := hallOk_pair (p := 0) (q := 2) hok (by decide) (by decide)
        refine rIinc (v := (nI (0 + 2))) dX6_round_56 rfl (by first | exact nI_add _ _ | rfl) (by decide) ?_
        refine rGoto (tgt := 31) dX6_round_59 (by decide) ?_
        refine rIload_n dX6_round_31 rfl ?_
        refine rIconst (v := (nI (4))) dX6_round_32 (by decide) ?_
        refine r_icmp_ge (tgt := 62) dX6_round_33 (by decide) (fun c_33 => ?_) (fun c_33 => ?_)
        · have c_33 : 4 ≤ 2 := (nI_leI (by omega) (by omega)).mp c_33
          exact absurd c_33 (by omega)
        · have c_33 : ¬ (4 ≤ 2) := fun h => c_33 ((nI_leI (by omega) (by omega)).mpr h)
          refine rAload_n dX6_round_36 rfl ?_
          refine rGets dX6_round_37 gs_P ?_
          refine rIload_n dX6_round_40 rfl ?_
          refine rIload_n dX6_round_41 rfl ?_
          refine nIadd dX6_round_42 ?_
          refine tTop (w := (nI (6))) rfl ?_
          refine rTald (i := nI 6) (x := nI 1) dX6_round_43 (vp_in_nI (by decide) (by decide)) (by rw [nI_clamp (by decide)]; rfl) ?_
          refine rGets dX6_round_44 gs_P ?_
          refine rIload_n dX6_round_47 rfl ?_
          refine rIload_n dX6_round_48 rfl ?_
          refine nIadd dX6_round_49 ?_
          refine rIconst (v := (nI (1))) dX6_round_50 (by decide) ?_
          refine nIadd dX6_round_51 ?_
          refine tTop (w := (nI (7))) rfl ?_
          refine rTald (i := nI 7) (x := nI 3) dX6_round_52 (vp_in_nI (by decide) (by decide)) (by rw [nI_clamp (by decide)]; rfl) ?_
          refine sCallVv (M' := mX6_fightPair) (rm' := rmD 8 3 18) (As := [.int (nI 1), .int (nI 3)]) (rest := []) dX6_round_53 rfl mk_X6_fightPair mi_X6_fightPair ll_X6_151 ⟨(Nat.le_of_ble_eq_true rfl), (Nat.le_of_ble_eq_true rfl)⟩ ho.1 (by decide) rfl rfl (Nat.le_of_ble_eq_true rfl) (Nat.le_of_ble_eq_true rfl) (c_X6_fightPair ho d0 k0 hB hfl (p := 1) (q := 3) (by decide) (by decide) (by decide)) rfl (Nat.le_of_ble_eq_true rfl) (fun f1 e1 => ?_)
          obtain ⟨d1, g1⟩ := e1
          have k1 := hallOk_pair (p := 1) (q := 3) k0 (by decide) (by decide)
          refine rIinc (v := (nI (2 + 2))) dX6_round_56 rfl (by first | exact nI_add _ _ | rfl) (by decide) ?_
          refine rGoto (tgt := 31) dX6_round_59 (by decide) ?_
          refine rIload_n dX6_round_31 rfl ?_
          refine rIconst (v := (nI (4))) dX6_round_32 (by decide) ?_
          refine r_icmp_ge (tgt := 62) dX6_round_33 (by decide) (fun c_33 => ?_) (fun c_33 => ?_)
          · have c_33 : 4 ≤ 4 := (nI_leI (by omega) (by omega)).mp c_33
            refine rIconst (v := (nI (0))) dX6_round_62 (by decide) ?_
            refine rIstore_n dX6_round_63 (by decide) ?_
            rw [← hrd] at d1 k1
            refine loopW (σ := sgT) (4) (fun i y => [some (.ref (ad V o)), some (.int (nI 4)), some (.int (nI i))]) (fun i y => y) (fun i y => hallIs y o (eaH (rdH h) i) ∧ hFr s y o) (0) f1 (by omega) ⟨d1, g0.trans g1⟩ (fun i y hi hinv ih => ?_)
            obtain ⟨v1, v2⟩ := hinv
            refine rIload_n dX6_round_64 rfl ?_
            refine rIconst (v := (nI (4))) dX6_round_65 (by decide) ?_
            refine r_icmp_ge (tgt := 84) dX6_round_66 (by decide) (fun c_66 => ?_) (fun c_66 => ?_)
            · have c_66 : 4 ≤ i := (nI_leI (by omega) (by omega)).mp c_66
              have e : i = 4 := by omega
              subst e
              have hk := hallOk_ea k1 4 (by omega)
              refine rAload_n dX6_round_84 rfl ?_
              refine sCallVv (M' := mX6_fillUnlockedShops) (rm' := rmD 5 0 0) (As := []) (rest := []) dX6_round_85 rfl mk_X6_fillUnlockedShops mi_X6_fillUnlockedShops ll_X6_157 ⟨(Nat.le_of_ble_eq_true rfl), (Nat.le_of_ble_eq_true rfl)⟩ ho.1 (by decide) rfl rfl (Nat.le_of_ble_eq_true rfl) (Nat.le_of_ble_eq_true rfl) (c_X6_fillUnlockedShops ho v1 hk hB) rfl (Nat.le_of_ble_eq_true rfl) (fun w1 e2 => ?_)
              obtain ⟨d2, g2⟩ := e2
              have hk2 := hallOk_fu hk 4 (by omega)
              refine rAload_n dX6_round_88 rfl ?_
              refine rDup dX6_round_89 rfl ?_
              refine sGetI (x := (nI (hR (fuH (eaH (rdH h) 4) 4)))) dX6_round_90 fl_X6_143 ho.1 (by decide) rfl (by rw [d2.2.2.2]) ?_
              refine rIconst (v := (nI (1))) dX6_round_93 (by decide) ?_
              refine nIadd dX6_round_94 ?_
              refine sPutI dX6_round_95 fl_X6_143 ft_X6 rfl ho.1 (by decide) rfl rfl rfl ?_
              refine rAload_n dX6_round_98 rfl ?_
              have d3 : hallIs (sw w1 o 4 (nI ((hR (fuH (eaH (rdH h) 4) 4)) + 1))) o (hQ (fuH (eaH (rdH h) 4) 4), hP (fuH (eaH (rdH h) 4) 4), hY (fuH (eaH (rdH h) 4) 4), hR (fuH (eaH (rdH h) 4) 4) + 1) := ⟨numsIs_keep d2.1 (sw_a (by omega)) (sw_a (by omega)), poolIs_keep d2.2.1 (sw_a (by omega)), fun p hp => plIs_keep (d2.2.2.1 p hp) (fun b h1 h2 => sw_a (by omega)), sw_s⟩
              have hal : aliN (hQ (fuH (eaH (rdH h) 4) 4), hP (fuH (eaH (rdH h) 4) 4), hY (fuH (eaH (rdH h) 4) 4), hR (fuH (eaH (rdH h) 4) 4) + 1) 4 = aliN (fuH (eaH (rdH h) 4) 4) 4 := rfl
              refine sCallVp (M' := mX6_playersWithHealth) (rm' := rmD 1 0 0) (As := []) (rest := []) dX6_round_99 rfl mk_X6_playersWithHealth mi_X6_playersWithHealth ll_X6_160 ⟨(Nat.le_of_ble_eq_true rfl), (Nat.le_of_ble_eq_true rfl)⟩ ho.1 (by decide) rfl rfl (Nat.le_of_ble_eq_true rfl) (Nat.le_of_ble_eq_true rfl) (c_X6_playersWithHealth ho d3 (B := B + 3 * 4) (hallRr hk2 (by rw [hallR_fu, hallR_ea, hallR_rd]; omega)) (by omega)) rfl (Nat.le_of_ble_eq_true rfl) (fun v e4 => ?_)
              exact sIret dX6_round_102 rfl rfl (Nat.le_of_ble_eq_true rfl) (Nat.le_of_ble_eq_true rfl) ⟨_, rfl, ⟨rfl, e4.trans (congrArg nI hal), d3, fun b hb => by rw [sw_a (by omega), g2 b hb, v2 b hb]⟩⟩
            · have c_66 : ¬ (4 ≤ i) := fun h => c_66 ((nI_leI (by omega) (by omega)).mpr h)
              refine rAload_n dX6_round_69 rfl ?_
              refine sGetR dX6_round_70 fl_X6_11 ho.1 (by decide) rfl ?_
              refine rIload_n dX6_round_73 rfl ?_
              refine nAald (b := o + 15 + 8 * i) dX6_round_74 ho.2.1 (by omega) (by omega) (hall_pl (by omega)) ?_
              refine sCallVv (M' := mX2_earn) (rm' := rmD 2 0 0) (As := []) (rest := []) dX6_round_75 rfl mk_X2_earn mi_X2_earn ll_X6_154 ⟨(Nat.le_of_ble_eq_true rfl), (Nat.le_of_ble_eq_true rfl)⟩ (ho.2.2.2.2.2.2.2 i (by omega)).1 (by decide) rfl rfl (Nat.le_of_ble_eq_true rfl) (Nat.le_of_ble_eq_true rfl) (c_X2_earn (ho.2.2.2.2.2.2.2 i (by omega)) (v1.2.2.1 i (by omega)) ((hallOk_ea k1 i (by omega)).2.2.1 i (by omega))) rfl (Nat.le_of_ble_eq_true rfl) (fun w2 e5 => ?_)
              obtain ⟨d5, g5⟩ := e5
              refine rIinc (v := (nI (i + 1))) dX6_round_78 rfl (by first | exact nI_add _ _ | rfl) (by decide) ?_
              refine rGoto (tgt := 64) dX6_round_81 (by decide) ?_
              exact ih (by omega) w2 ⟨hallIs_P v1 (by omega) d5 (fun b hb => g5 b (by omega)), fun b hb => by rw [g5 b (by omega)]; exact v2 b hb⟩
          · have c_33 : ¬ (4 ≤ 4) := fun h => c_33 ((nI_leI (by omega) (by omega)).mpr h)
            exact absurd c_33 (by omega)
    · have hrd : rdH h = pairH (pairH h 0 3) 1 2 := by unfold rdH; rw [if_neg (by omega), if_neg (by omega)]; rfl
      refine rAload_n dX6_round_20 rfl ?_
      refine sGetI (x := (nI (hR h))) dX6_round_21 fl_X6_143 ho.1 (by decide) rfl (by rw [hh.2.2.2]) ?_
      refine rIconst (v := (nI (3))) dX6_round_24 (by decide) ?_
      refine nIrem dX6_round_25 (by omega) (by decide) (by decide) ?_
      refine tTop (w := (nI (2))) (congrArg nI hm) ?_
      refine rIconst (v := (nI (4))) dX6_round_26 (by decide) ?_
      refine nImul dX6_round_27 ?_
      refine tTop (w := (nI (8))) rfl ?_
      refine rIstore_n dX6_round_28 (by decide) ?_
      refine rIconst (v := (nI (0))) dX6_round_29 (by decide) ?_
      refine rIstore_n dX6_round_30 (by decide) ?_
      refine rIload_n dX6_round_31 rfl ?_
      refine rIconst (v := (nI (4))) dX6_round_32 (by decide) ?_
      refine r_icmp_ge (tgt := 62) dX6_round_33 (by decide) (fun c_33 => ?_) (fun c_33 => ?_)
      · have c_33 : 4 ≤ 0 := (nI_leI (by omega) (by omega)).mp c_33
        exact absurd c_33 (by omega)
      · have c_33 : ¬ (4 ≤ 0) := fun h => c_33 ((nI_leI (by omega) (by omega)).mpr h)
        refine rAload_n dX6_round_36 rfl ?_
        refine rGets dX6_round_37 gs_P ?_
        refine rIload_n dX6_round_40 rfl ?_
        refine rIload_n dX6_round_41 rfl ?_
        refine nIadd dX6_round_42 ?_
        refine tTop (w := (nI (8))) rfl ?_
        refine rTald (i := nI 8) (x := nI 0) dX6_round_43 (vp_in_nI (by decide) (by decide)) (by rw [nI_clamp (by decide)]; rfl) ?_
        refine rGets dX6_round_44 gs_P ?_
        refine rIload_n dX6_round_47 rfl ?_
        refine rIload_n dX6_round_48 rfl ?_
        refine nIadd dX6_round_49 ?_
        refine rIconst (v := (nI (1))) dX6_round_50 (by decide) ?_
        refine nIadd dX6_round_51 ?_
        refine tTop (w := (nI (9))) rfl ?_
        refine rTald (i := nI 9) (x := nI 3) dX6_round_52 (vp_in_nI (by decide) (by decide)) (by rw [nI_clamp (by decide)]; rfl) ?_
        refine sCallVv (M' := mX6_fightPair) (rm' := rmD 8 3 18) (As := [.int (nI 0), .int (nI 3)]) (rest := []) dX6_round_53 rfl mk_X6_fightPair mi_X6_fightPair ll_X6_151 ⟨(Nat.le_of_ble_eq_true rfl), (Nat.le_of_ble_eq_true rfl)⟩ ho.1 (by decide) rfl rfl (Nat.le_of_ble_eq_true rfl) (Nat.le_of_ble_eq_true rfl) (c_X6_fightPair ho hh hok hB hfl (p := 0) (q := 3) (by decide) (by decide) (by decide)) rfl (Nat.le_of_ble_eq_true rfl) (fun f0 e0 => ?_)
        obtain ⟨d0, g0⟩ := e0
        have k0 := hallOk_pair (p := 0) (q := 3) hok (by decide) (by decide)
        refine rIinc (v := (nI (0 + 2))) dX6_round_56 rfl (by first | exact nI_add _ _ | rfl) (by decide) ?_
        refine rGoto (tgt := 31) dX6_round_59 (by decide) ?_
        refine rIload_n dX6_round_31 rfl ?_
        refine rIconst (v := (nI (4))) dX6_round_32 (by decide) ?_
        refine r_icmp_ge (tgt := 62) dX6_round_33 (by decide) (fun c_33 => ?_) (fun c_33 => ?_)
        · have c_33 : 4 ≤ 2 := (nI_leI (by omega) (by omega)).mp c_33
          exact absurd c_33 (by omega)
        · have c_33 : ¬ (4 ≤ 2) := fun h => c_33 ((nI_leI (by omega) (by omega)).mpr h)
          refine rAload_n dX6_round_36 rfl ?_
          refine rGets dX6_round_37 gs_P ?_
          refine rIload_n dX6_round_40 rfl ?_
          refine rIload_n dX6_round_41 rfl ?_
          refine nIadd dX6_round_42 ?_
          refine tTop (w := (nI (10))) rfl ?_
          refine rTald (i := nI 10) (x := nI 1) dX6_round_43 (vp_in_nI (by decide) (by decide)) (by rw [nI_clamp (by decide)]; rfl) ?_
          refine rGets dX6_round_44 gs_P ?_
          refine rIload_n dX6_round_47 rfl ?_
          refine rIload_n dX6_round_48 rfl ?_
          refine nIadd dX6_round_49 ?_
          refine rIconst (v := (nI (1))) dX6_round_50 (by decide) ?_
          refine nIadd dX6_round_51 ?_
          refine tTop (w := (nI (11))) rfl ?_
          refine rTald (i := nI 11) (x := nI 2) dX6_round_52 (vp_in_nI (by decide) (by decide)) (by rw [nI_clamp (by decide)]; rfl) ?_
          refine sCallVv (M' := mX6_fightPair) (rm' := rmD 8 3 18) (As := [.int (nI 1), .int (nI 2)]) (rest := []) dX6_round_53 rfl mk_X6_fightPair mi_X6_fightPair ll_X6_151 ⟨(Nat.le_of_ble_eq_true rfl), (Nat.le_of_ble_eq_true rfl)⟩ ho.1 (by decide) rfl rfl (Nat.le_of_ble_eq_true rfl) (Nat.le_of_ble_eq_true rfl) (c_X6_fightPair ho d0 k0 hB hfl (p := 1) (q := 2) (by decide) (by decide) (by decide)) rfl (Nat.le_of_ble_eq_true rfl) (fun f1 e1 => ?_)
          obtain ⟨d1, g1⟩ := e1
          have k1 := hallOk_pair (p := 1) (q := 2) k0 (by decide) (by decide)
          refine rIinc (v := (nI (2 + 2))) dX6_round_56 rfl (by first | exact nI_add _ _ | rfl) (by decide) ?_
          refine rGoto (tgt := 31) dX6_round_59 (by decide) ?_
          refine rIload_n dX6_round_31 rfl ?_
          refine rIconst (v := (nI (4))) dX6_round_32 (by decide) ?_
          refine r_icmp_ge (tgt := 62) dX6_round_33 (by decide) (fun c_33 => ?_) (fun c_33 => ?_)
          · have c_33 : 4 ≤ 4 := (nI_leI (by omega) (by omega)).mp c_33
            refine rIconst (v := (nI (0))) dX6_round_62 (by decide) ?_
            refine rIstore_n dX6_round_63 (by decide) ?_
            rw [← hrd] at d1 k1
            refine loopW (σ := sgT) (4) (fun i y => [some (.ref (ad V o)), some (.int (nI 8)), some (.int (nI i))]) (fun i y => y) (fun i y => hallIs y o (eaH (rdH h) i) ∧ hFr s y o) (0) f1 (by omega) ⟨d1, g0.trans g1⟩ (fun i y hi hinv ih => ?_)
            obtain ⟨v1, v2⟩ := hinv
            refine rIload_n dX6_round_64 rfl ?_
            refine rIconst (v := (nI (4))) dX6_round_65 (by decide) ?_
            refine r_icmp_ge (tgt := 84) dX6_round_66 (by decide) (fun c_66 => ?_) (fun c_66 => ?_)
            · have c_66 : 4 ≤ i := (nI_leI (by omega) (by omega)).mp c_66
              have e : i = 4 := by omega
              subst e
              have hk := hallOk_ea k1 4 (by omega)
              refine rAload_n dX6_round_84 rfl ?_
              refine sCallVv (M' := mX6_fillUnlockedShops) (rm' := rmD 5 0 0) (As := []) (rest := []) dX6_round_85 rfl mk_X6_fillUnlockedShops mi_X6_fillUnlockedShops ll_X6_157 ⟨(Nat.le_of_ble_eq_true rfl), (Nat.le_of_ble_eq_true rfl)⟩ ho.1 (by decide) rfl rfl (Nat.le_of_ble_eq_true rfl) (Nat.le_of_ble_eq_true rfl) (c_X6_fillUnlockedShops ho v1 hk hB) rfl (Nat.le_of_ble_eq_true rfl) (fun w1 e2 => ?_)
              obtain ⟨d2, g2⟩ := e2
              have hk2 := hallOk_fu hk 4 (by omega)
              refine rAload_n dX6_round_88 rfl ?_
              refine rDup dX6_round_89 rfl ?_
              refine sGetI (x := (nI (hR (fuH (eaH (rdH h) 4) 4)))) dX6_round_90 fl_X6_143 ho.1 (by decide) rfl (by rw [d2.2.2.2]) ?_
              refine rIconst (v := (nI (1))) dX6_round_93 (by decide) ?_
              refine nIadd dX6_round_94 ?_
              refine sPutI dX6_round_95 fl_X6_143 ft_X6 rfl ho.1 (by decide) rfl rfl rfl ?_
              refine rAload_n dX6_round_98 rfl ?_
              have d3 : hallIs (sw w1 o 4 (nI ((hR (fuH (eaH (rdH h) 4) 4)) + 1))) o (hQ (fuH (eaH (rdH h) 4) 4), hP (fuH (eaH (rdH h) 4) 4), hY (fuH (eaH (rdH h) 4) 4), hR (fuH (eaH (rdH h) 4) 4) + 1) := ⟨numsIs_keep d2.1 (sw_a (by omega)) (sw_a (by omega)), poolIs_keep d2.2.1 (sw_a (by omega)), fun p hp => plIs_keep (d2.2.2.1 p hp) (fun b h1 h2 => sw_a (by omega)), sw_s⟩
              have hal : aliN (hQ (fuH (eaH (rdH h) 4) 4), hP (fuH (eaH (rdH h) 4) 4), hY (fuH (eaH (rdH h) 4) 4), hR (fuH (eaH (rdH h) 4) 4) + 1) 4 = aliN (fuH (eaH (rdH h) 4) 4) 4 := rfl
              refine sCallVp (M' := mX6_playersWithHealth) (rm' := rmD 1 0 0) (As := []) (rest := []) dX6_round_99 rfl mk_X6_playersWithHealth mi_X6_playersWithHealth ll_X6_160 ⟨(Nat.le_of_ble_eq_true rfl), (Nat.le_of_ble_eq_true rfl)⟩ ho.1 (by decide) rfl rfl (Nat.le_of_ble_eq_true rfl) (Nat.le_of_ble_eq_true rfl) (c_X6_playersWithHealth ho d3 (B := B + 3 * 4) (hallRr hk2 (by rw [hallR_fu, hallR_ea, hallR_rd]; omega)) (by omega)) rfl (Nat.le_of_ble_eq_true rfl) (fun v e4 => ?_)
              exact sIret dX6_round_102 rfl rfl (Nat.le_of_ble_eq_true rfl) (Nat.le_of_ble_eq_true rfl) ⟨_, rfl, ⟨rfl, e4.trans (congrArg nI hal), d3, fun b hb => by rw [sw_a (by omega), g2 b hb, v2 b hb]⟩⟩
            · have c_66 : ¬ (4 ≤ i) := fun h => c_66 ((nI_leI (by omega) (by omega)).mpr h)
              refine rAload_n dX6_round_69 rfl ?_
              refine sGetR dX6_round_70 fl_X6_11 ho.1 (by decide) rfl ?_
              refine rIload_n dX6_round_73 rfl ?_
              refine nAald (b := o + 15 + 8 * i) dX6_round_74 ho.2.1 (by omega) (by omega) (hall_pl (by omega)) ?_
              refine sCallVv (M' := mX2_earn) (rm' := rmD 2 0 0) (As := []) (rest := []) dX6_round_75 rfl mk_X2_earn mi_X2_earn ll_X6_154 ⟨(Nat.le_of_ble_eq_true rfl), (Nat.le_of_ble_eq_true rfl)⟩ (ho.2.2.2.2.2.2.2 i (by omega)).1 (by decide) rfl rfl (Nat.le_of_ble_eq_true rfl) (Nat.le_of_ble_eq_true rfl) (c_X2_earn (ho.2.2.2.2.2.2.2 i (by omega)) (v1.2.2.1 i (by omega)) ((hallOk_ea k1 i (by omega)).2.2.1 i (by omega))) rfl (Nat.le_of_ble_eq_true rfl) (fun w2 e5 => ?_)
              obtain ⟨d5, g5⟩ := e5
              refine rIinc (v := (nI (i + 1))) dX6_round_78 rfl (by first | exact nI_add _ _ | rfl) (by decide) ?_
              refine rGoto (tgt := 64) dX6_round_81 (by decide) ?_
              exact ih (by omega) w2 ⟨hallIs_P v1 (by omega) d5 (fun b hb => g5 b (by omega)), fun b hb => by rw [g5 b (by omega)]; exact v2 b hb⟩
          · have c_33 : ¬ (4 ≤ 4) := fun h => c_33 ((nI_leI (by omega) (by omega)).mpr h)
            exact absurd c_33 (by omega)
  · have c_7 : ¬ ((hR h) < 200) := fun h => c_7 ((nI_ltI (by omega) (by omega)).mpr h)
    exact sThrow hfl rfl xl_X6_146 dX6_round_10 dX6_round_13 dX6_round_14 dX6_round_16 dX6_round_19 (Nat.le_of_ble_eq_true rfl) (Nat.le_of_ble_eq_true rfl) (Nat.le_of_ble_eq_true rfl) (Nat.le_of_ble_eq_true rfl) rfl ⟨by simp only [fRound, if_pos (show 200 ≤ hR h by omega)], 0, by simp only [fRound, if_pos (show 200 ≤ hR h by omega)], rfl⟩
