/-! the reference: buy, toBench, rounds (by program) -/
def wH (x : plT) (g : Nat) : plT := (x.1, x.2.1, g, x.2.2.2)
theorem mpl_H {s : sgT} {m p g : Nat} {x : plT} (h : mpl s m p x) : mpl (sw s (m + 5) p (nI g)) m p (wH x g) := by
  obtain ⟨e1, e2, e3, e4, e5, e6, e7, e8⟩ := h
  exact ⟨by rw [sw_a (by omega)]; exact e1, by rw [sw_a (by omega)]; exact e2, sw_s, by rw [sw_a (by omega)]; exact e4, by rw [sw_a (by omega)]; exact e5, fun j hj => by rw [sw_a (by omega)]; exact e6 j hj, mrow_keep e7 (by rw [sw_a (by omega)]) (fun i hi => by rw [sw_a (by omega)]), mrow_keep e8 (by rw [sw_a (by omega)]) (fun i hi => by rw [sw_a (by omega)])⟩
theorem plOk_H {x : plT} {g : Nat} (h : plOk x) (hg : g ≤ 20) : plOk (wH x g) := ⟨h.1, h.2.1, h.2.2.1, hg, h.2.2.2.2⟩
theorem fight_neg : ∀ a, a < 6 → ∀ b, b < 6 → a < b → -(nI a - nI b) = nI (b - a) := by decide +kernel
def upR (h : hT) : hT := (hQ h, hP h, hY h, hR h + 1)
theorem eaH_up {h : hT} : ∀ i, eaH (upR h) i = upR (eaH h i)
  | 0 => rfl
  | i + 1 => by
    simp only [eaH]
    rw [eaH_up i]
    rfl
theorem fuH_up {h : hT} : ∀ i, fuH (upR h) i = upR (fuH h i)
  | 0 => rfl
  | i + 1 => by
    simp only [fuH]
    rw [fuH_up i]
    cases hc : pLck (hY (fuH h i) i) with
    | false =>
      have e : pLck (hY (upR (fuH h i)) i) = false := hc
      rw [e]
      rfl
    | true =>
      have e : pLck (hY (upR (fuH h i)) i) = true := hc
      rw [e]
      rfl
theorem ea_h {h : hT} {k : Nat} : ∀ i, pHth (hY (eaH h i) k) = pHth (hY h k)
  | 0 => rfl
  | i + 1 => by
    show pHth (if k = i then _ else hY (eaH h i) k) = _
    by_cases e : k = i
    · subst e
      rw [if_pos rfl]
      exact ea_h k
    · rw [if_neg e]
      exact ea_h i
theorem fill_h {h : hT} {k i : Nat} : pHth (hY (fillH h i) k) = pHth (hY h k) := by
  show pHth (if k = i then _ else hY h k) = _
  by_cases e : k = i
  · subst e
    rw [if_pos rfl]
    rfl
  · rw [if_neg e]
theorem fu_h {h : hT} {k : Nat} : ∀ i, pHth (hY (fuH h i) k) = pHth (hY h k)
  | 0 => rfl
  | i + 1 => by
    have ih := fu_h (h := h) (k := k) i
    show pHth (if k = i then _ else hY (if pLck (hY (fuH h i) i) then fuH h i else fillH (fuH h i) i) k) = _
    have e2 : pHth (hY (if pLck (hY (fuH h i) i) then fuH h i else fillH (fuH h i) i) k) = pHth (hY h k) := by
      split
      · exact ih
      · exact fill_h.trans ih
    by_cases e : k = i
    · subst e
      rw [if_pos rfl]
      exact e2
    · rw [if_neg e]
      exact e2
theorem ali_cong {h h' : hT} (e : ∀ k, pHth (hY h k) = pHth (hY h' k)) : ∀ i, aliN h i = aliN h' i
  | 0 => rfl
  | i + 1 => by
    simp only [aliN]
    rw [ali_cong e i, e i]
set_option maxRecDepth 100000 in
set_option maxHeartbeats 4000000 in
theorem c_X7_errorOfBuy {G : gG} {V : wV} {lo : Nat → Int64} {m : Nat} (hm : modAt V m) {s : sgT} {h : hT} (hh : modIs s m h) {B : Nat} (hok : hallOk B h) (hB : B ≤ 19000) {x y : Int32} : CSp G V mX7_errorOfBuy cX7_errorOfBuy (rmD 4 0 0) [.ref (ad V m), .int x, .int y] s lo (fun v => (∃ c, c < 3 ∧ fBuy h x y = (c + 1, 0, h) ∧ v = nI (c + 1)) ∨ (∃ p j k, p < 4 ∧ j < 3 ∧ x = nI p ∧ y = nI j ∧ pShp (hY h p) j = some k ∧ ¬ pGold (hY h p) < cst k ∧ ¬ (pBen (hY h p)).length = 6 ∧ v = nI 0)) (fun _ => False) := by
  refine CSp.of (L := [some (.ref (ad V m)), some (.int x), some (.int y), none]) rfl (by decide +kernel) rfl (Nat.le_of_ble_eq_true rfl) rfl ?_
  refine rIload_n dX7_errorOfBuy_0 rfl ?_
  refine rIload_n dX7_errorOfBuy_1 rfl ?_
  refine sCallSp (M' := mX7_isSlot) (rm' := rmD 3 0 0) (As := [.int x, .int y]) (rest := []) dX7_errorOfBuy_2 rfl mk_X7_isSlot ms_X7_isSlot ll_X7_113 ⟨(Nat.le_of_ble_eq_true rfl), (Nat.le_of_ble_eq_true rfl)⟩ rfl (Nat.le_of_ble_eq_true rfl) (Nat.le_of_ble_eq_true rfl) (c_X7_isSlot) rfl (Nat.le_of_ble_eq_true rfl) (fun v e => ?_)
  rcases e with ⟨⟨⟨p, hp, rfl⟩, j, hj, rfl⟩, rfl⟩ | ⟨ns, rfl⟩
  · have yp : mpl s m p (hY h p) := hh.2.2.2 p hp
    have bdp : mrow s (m + 11) (m + 12) p 5 (pBrd (hY h p)) := yp.2.2.2.2.2.2.1
    have bnp : mrow s (m + 9) (m + 10) p 6 (pBen (hY h p)) := yp.2.2.2.2.2.2.2
    obtain ⟨o1p, o2p, o3p, o4p, o5p, o6p, o7p, o8p, o9p⟩ := hok.2.2.1 p hp
    have ip : idx 4 (nI p) = some p := idx_nI hp (by decide)
    have ij : idx 3 (nI j) = some j := idx_nI hj (by decide)
    refine r_if_ne (tgt := 10) dX7_errorOfBuy_5 (by decide) (fun c_5 => ?_) (fun c_5 => ?_)
    · have c_5 : ¬ (1 = 0) := fun h => c_5 ((nz_eq (by omega)).mpr h)
      have hz := yp.2.2.2.2.2.1 j hj
      cases hs : pShp (hY h p) j with
      | none =>
        rw [hs] at hz
        refine rAload_n dX7_errorOfBuy_10 rfl ?_
        refine sGetR dX7_errorOfBuy_11 fl_X7_28 hm.1 (by decide) rfl ?_
        refine rIconst (v := (nI (3))) dX7_errorOfBuy_14 (by decide) ?_
        refine rIload_n dX7_errorOfBuy_15 rfl ?_
        refine nImul dX7_errorOfBuy_16 ?_
        refine rIload_n dX7_errorOfBuy_17 rfl ?_
        refine nIadd dX7_errorOfBuy_18 ?_
        refine nIald (v := (shI none)) dX7_errorOfBuy_19 hm.2.2.2.2.2.2.2.1 (by omega) (by omega) (by rw [hz]) ?_
        refine rIstore_n dX7_errorOfBuy_20 (by decide) ?_
        refine rIload_n dX7_errorOfBuy_21 rfl ?_
        refine rIconst (v := (-1)) dX7_errorOfBuy_22 (by decide) ?_
        refine r_icmp_ne (tgt := 30) dX7_errorOfBuy_23 (by decide) (fun c_23 => ?_) (fun c_23 => ?_)
        · exact absurd rfl c_23
        · refine rIconst (v := (nI (2))) dX7_errorOfBuy_26 (by decide) ?_
          refine rGoto (tgt := 59) dX7_errorOfBuy_27 (by decide) ?_
          exact sIret dX7_errorOfBuy_59 rfl rfl (Nat.le_of_ble_eq_true rfl) (Nat.le_of_ble_eq_true rfl) ⟨_, rfl, rfl, (Or.inl ⟨1, by decide, by simp only [fBuy, ip, ij, hs], rfl⟩)⟩
      | some k =>
        rw [hs] at hz
        have hz : s (m + 7) (3 * p + j) = nI k := hz
        have hk9 := o5p j hj k hs
        have hc3 : cst k ≤ 3 := by unfold cst; omega
        refine rAload_n dX7_errorOfBuy_10 rfl ?_
        refine sGetR dX7_errorOfBuy_11 fl_X7_28 hm.1 (by decide) rfl ?_
        refine rIconst (v := (nI (3))) dX7_errorOfBuy_14 (by decide) ?_
        refine rIload_n dX7_errorOfBuy_15 rfl ?_
        refine nImul dX7_errorOfBuy_16 ?_
        refine rIload_n dX7_errorOfBuy_17 rfl ?_
        refine nIadd dX7_errorOfBuy_18 ?_
        refine nIald (v := (nI (k))) dX7_errorOfBuy_19 hm.2.2.2.2.2.2.2.1 (by omega) (by omega) (by rw [hz]) ?_
        refine rIstore_n dX7_errorOfBuy_20 (by decide) ?_
        refine rIload_n dX7_errorOfBuy_21 rfl ?_
        refine rIconst (v := (-1)) dX7_errorOfBuy_22 (by decide) ?_
        refine r_icmp_ne (tgt := 30) dX7_errorOfBuy_23 (by decide) (fun c_23 => ?_) (fun c_23 => ?_)
        · refine rAload_n dX7_errorOfBuy_30 rfl ?_
          refine sGetR dX7_errorOfBuy_31 fl_X7_16 hm.1 (by decide) rfl ?_
          refine rIload_n dX7_errorOfBuy_34 rfl ?_
          refine nIald (v := (nI (pGold (hY h p)))) dX7_errorOfBuy_35 hm.2.2.2.1 (by omega) (by omega) (by rw [yp.1]) ?_
          refine rIload_n dX7_errorOfBuy_36 rfl ?_
          refine sCallSp (M' := mX7_cost) (rm' := rmD 1 0 0) (As := [.int (nI k)]) (rest := [.int (nI (pGold (hY h p)))]) dX7_errorOfBuy_37 rfl mk_X7_cost ms_X7_cost ll_X7_81 ⟨(Nat.le_of_ble_eq_true rfl), (Nat.le_of_ble_eq_true rfl)⟩ rfl (Nat.le_of_ble_eq_true rfl) (Nat.le_of_ble_eq_true rfl) (c_X7_cost (by omega)) rfl (Nat.le_of_ble_eq_true rfl) (fun vc ec => ?_)
          refine tTop (w := (nI (cst k))) ec ?_
          refine r_icmp_lt (tgt := 54) dX7_errorOfBuy_40 (by decide) (fun c_40 => ?_) (fun c_40 => ?_)
          · have c_40 : (pGold (hY h p)) < (cst k) := (nI_ltI (by omega) (by omega)).mp c_40
            refine rIconst (v := (nI (3))) dX7_errorOfBuy_54 (by decide) ?_
            refine rGoto (tgt := 59) dX7_errorOfBuy_55 (by decide) ?_
            exact sIret dX7_errorOfBuy_59 rfl rfl (Nat.le_of_ble_eq_true rfl) (Nat.le_of_ble_eq_true rfl) ⟨_, rfl, rfl, (Or.inl ⟨2, by decide, by simp only [fBuy, ip, ij, hs, if_pos c_40], rfl⟩)⟩
          · have c_40 : ¬ ((pGold (hY h p)) < (cst k)) := fun h => c_40 ((nI_ltI (by omega) (by omega)).mpr h)
            refine rAload_n dX7_errorOfBuy_43 rfl ?_
            refine sGetR dX7_errorOfBuy_44 fl_X7_35 hm.1 (by decide) rfl ?_
            refine rIload_n dX7_errorOfBuy_47 rfl ?_
            refine nIald (v := (nI ((pBen (hY h p)).length))) dX7_errorOfBuy_48 hm.2.2.2.2.2.2.2.2.2.1 (by omega) (by omega) (by rw [bnp.1]) ?_
            refine rBipush (v := (nI (6))) dX7_errorOfBuy_49 (by decide) ?_
            refine r_icmp_ne (tgt := 58) dX7_errorOfBuy_51 (by decide) (fun c_51 => ?_) (fun c_51 => ?_)
            · have c_51 : ¬ (((pBen (hY h p)).length) = 6) := fun h => c_51 ((nI_eq (by omega) (by omega)).mpr h)
              refine rIconst (v := (nI (0))) dX7_errorOfBuy_58 (by decide) ?_
              exact sIret dX7_errorOfBuy_59 rfl rfl (Nat.le_of_ble_eq_true rfl) (Nat.le_of_ble_eq_true rfl) ⟨_, rfl, rfl, (Or.inr ⟨p, j, k, hp, hj, rfl, rfl, hs, c_40, c_51, rfl⟩)⟩
            · have c_51 : ((pBen (hY h p)).length) = 6 := (nI_eq (by omega) (by omega)).mp c_51
              refine rIconst (v := (nI (3))) dX7_errorOfBuy_54 (by decide) ?_
              refine rGoto (tgt := 59) dX7_errorOfBuy_55 (by decide) ?_
              exact sIret dX7_errorOfBuy_59 rfl rfl (Nat.le_of_ble_eq_true rfl) (Nat.le_of_ble_eq_true rfl) ⟨_, rfl, rfl, (Or.inl ⟨2, by decide, by simp only [fBuy, ip, ij, hs, if_neg c_40, if_pos c_51], rfl⟩)⟩
        · exact absurd c_23 (nI_m1 (by omega))
    · have c_5 : 1 = 0 := (nz_eq (by omega)).mp c_5
      exact absurd c_5 (by omega)
  · refine r_if_ne (tgt := 10) dX7_errorOfBuy_5 (by decide) (fun c_5 => ?_) (fun c_5 => ?_)
    · have c_5 : ¬ (0 = 0) := fun h => c_5 ((nz_eq (by omega)).mpr h)
      exact absurd c_5 (by omega)
    · have c_5 : 0 = 0 := (nz_eq (by omega)).mp c_5
      have hF : fBuy h x y = (1, 0, h) := by rcases ask_no2 ns with e | ⟨p, e, e2⟩ <;> simp only [fBuy, *]
      refine rIconst (v := (nI (1))) dX7_errorOfBuy_8 (by decide) ?_
      exact sIret dX7_errorOfBuy_9 rfl rfl (Nat.le_of_ble_eq_true rfl) (Nat.le_of_ble_eq_true rfl) ⟨_, rfl, rfl, (Or.inl ⟨0, by decide, hF, rfl⟩)⟩
set_option maxRecDepth 100000 in
set_option maxHeartbeats 4000000 in
theorem c_X7_buy {G : gG} {V : wV} {lo : Nat → Int64} {m : Nat} (hm : modAt V m) {s : sgT} {h : hT} (hh : modIs s m h) {B : Nat} (hok : hallOk B h) (hB : B ≤ 19000) {x y : Int32} : CSi G V mX7_buy cX7_buy (rmD 9 0 0) [.ref (ad V m), .int x, .int y] s lo (fun v s' => mPost m s (fBuy h x y) v s') (fun _ => False) := by
  refine CSi.of (L := [some (.ref (ad V m)), some (.int x), some (.int y), none]) rfl (by decide +kernel) rfl (Nat.le_of_ble_eq_true rfl) rfl ?_
  refine rAload_n dX7_buy_0 rfl ?_
  refine rAload_n dX7_buy_1 rfl ?_
  refine rIload_n dX7_buy_2 rfl ?_
  refine rIload_n dX7_buy_3 rfl ?_
  refine sCallVp (M' := mX7_errorOfBuy) (rm' := rmD 4 0 0) (As := [.int x, .int y]) (rest := [.ref (ad V m)]) dX7_buy_4 rfl mk_X7_errorOfBuy mi_X7_errorOfBuy ll_X7_117 ⟨(Nat.le_of_ble_eq_true rfl), (Nat.le_of_ble_eq_true rfl)⟩ hm.1 (by decide) rfl rfl (Nat.le_of_ble_eq_true rfl) (Nat.le_of_ble_eq_true rfl) (c_X7_errorOfBuy hm hh hok hB) rfl (Nat.le_of_ble_eq_true rfl) (fun v e => ?_)
  rcases e with ⟨c, hc, hF, rfl⟩ | ⟨p, j, k, hp, hj, rfl, rfl, hs, hg, hf, rfl⟩
  · rw [hF]
    refine sCallVi (M' := mX7_holds) (rm' := rmD 1 0 0) (As := [.int (nI (c + 1))]) (rest := []) dX7_buy_7 rfl mk_X7_holds mi_X7_holds ll_X7_71 ⟨(Nat.le_of_ble_eq_true rfl), (Nat.le_of_ble_eq_true rfl)⟩ hm.1 (by decide) rfl rfl (Nat.le_of_ble_eq_true rfl) (Nat.le_of_ble_eq_true rfl) (c_X7_holds hm (by omega)) rfl (Nat.le_of_ble_eq_true rfl) (fun v9 t9 e9 => ?_)
    obtain ⟨rfl, rfl⟩ := e9
    refine tTop (w := (nI (0))) (if_neg (Nat.succ_ne_zero _)) ?_
    refine r_if_ne (tgt := 15) dX7_buy_10 (by decide) (fun c_10 => ?_) (fun c_10 => ?_)
    · have c_10 : ¬ (0 = 0) := fun h => c_10 ((nz_eq (by omega)).mpr h)
      exact absurd c_10 (by omega)
    · have c_10 : 0 = 0 := (nz_eq (by omega)).mp c_10
      refine rIconst (v := (nI (0))) dX7_buy_13 (by decide) ?_
      exact sIret dX7_buy_14 rfl rfl (Nat.le_of_ble_eq_true rfl) (Nat.le_of_ble_eq_true rfl) ⟨_, rfl, ⟨sw_s, fun e => absurd e (Nat.succ_ne_zero _), modIs_thr hh, fun b hb => sw_a (by omega)⟩⟩
  · have yp : mpl s m p (hY h p) := hh.2.2.2 p hp
    have bdp : mrow s (m + 11) (m + 12) p 5 (pBrd (hY h p)) := yp.2.2.2.2.2.2.1
    have bnp : mrow s (m + 9) (m + 10) p 6 (pBen (hY h p)) := yp.2.2.2.2.2.2.2
    obtain ⟨o1p, o2p, o3p, o4p, o5p, o6p, o7p, o8p, o9p⟩ := hok.2.2.1 p hp
    have ip : idx 4 (nI p) = some p := idx_nI hp (by decide)
    have ij : idx 3 (nI j) = some j := idx_nI hj (by decide)
    have hk9 := o5p j hj k hs
    have hc3 : cst k ≤ 3 := by unfold cst; omega
    have hz : s (m + 7) (3 * p + j) = nI k := by rw [yp.2.2.2.2.2.1 j hj, hs]; rfl
    have hF : fBuy h (nI p) (nI j) = (0, nI (pGold (hY h p) - cst k), setY h p (wG (wS1 (wB (hY h p) (merI 11 (pBrd (hY h p), pBen (hY h p) ++ [10 * k + 1]))) (fun i => if i = j then none else pShp (hY h p) i)) (pGold (hY h p) - cst k))) := by simp only [fBuy, ip, ij, hs, if_neg hg, if_neg hf]
    rw [hF]
    refine sCallVi (M' := mX7_holds) (rm' := rmD 1 0 0) (As := [.int (nI 0)]) (rest := []) dX7_buy_7 rfl mk_X7_holds mi_X7_holds ll_X7_71 ⟨(Nat.le_of_ble_eq_true rfl), (Nat.le_of_ble_eq_true rfl)⟩ hm.1 (by decide) rfl rfl (Nat.le_of_ble_eq_true rfl) (Nat.le_of_ble_eq_true rfl) (c_X7_holds hm (by omega)) rfl (Nat.le_of_ble_eq_true rfl) (fun v7 t7 e7 => ?_)
    obtain ⟨rfl, rfl⟩ := e7
    refine tTop (w := (nI (1))) (if_pos rfl) ?_
    refine r_if_ne (tgt := 15) dX7_buy_10 (by decide) (fun c_10 => ?_) (fun c_10 => ?_)
    · have c_10 : ¬ (1 = 0) := fun h => c_10 ((nz_eq (by omega)).mpr h)
      refine rAload_n dX7_buy_15 rfl ?_
      refine sGetR dX7_buy_16 fl_X7_28 hm.1 (by decide) rfl ?_
      refine rIconst (v := (nI (3))) dX7_buy_19 (by decide) ?_
      refine rIload_n dX7_buy_20 rfl ?_
      refine nImul dX7_buy_21 ?_
      refine rIload_n dX7_buy_22 rfl ?_
      refine nIadd dX7_buy_23 ?_
      refine nIald (v := (nI (k))) dX7_buy_24 hm.2.2.2.2.2.2.2.1 (by omega) (by omega) (by rw [sw_a (by omega), hz]) ?_
      refine rIstore_n dX7_buy_25 (by decide) ?_
      refine rAload_n dX7_buy_26 rfl ?_
      refine sGetR dX7_buy_27 fl_X7_28 hm.1 (by decide) rfl ?_
      refine rIconst (v := (nI (3))) dX7_buy_30 (by decide) ?_
      refine rIload_n dX7_buy_31 rfl ?_
      refine nImul dX7_buy_32 ?_
      refine rIload_n dX7_buy_33 rfl ?_
      refine nIadd dX7_buy_34 ?_
      refine rIconst (v := (-1)) dX7_buy_35 (by decide) ?_
      refine nIast dX7_buy_36 hm.2.2.2.2.2.2.2.1 (by omega) (by omega) ?_
      refine rAload_n dX7_buy_37 rfl ?_
      refine sGetR dX7_buy_38 fl_X7_16 hm.1 (by decide) rfl ?_
      refine rIload_n dX7_buy_41 rfl ?_
      refine rDup2 dX7_buy_42 rfl rfl ?_
      refine nIald (v := (nI (pGold (hY h p)))) dX7_buy_43 hm.2.2.2.1 (by omega) (by omega) (by rw [sw_a (by omega), sw_a (by omega), yp.1]) ?_
      refine rIload_n dX7_buy_44 rfl ?_
      refine sCallSp (M' := mX7_cost) (rm' := rmD 1 0 0) (As := [.int (nI k)]) (rest := [.int (nI (pGold (hY h p))), .int (nI p), .ref (ad V (m + 3))]) dX7_buy_45 rfl mk_X7_cost ms_X7_cost ll_X7_81 ⟨(Nat.le_of_ble_eq_true rfl), (Nat.le_of_ble_eq_true rfl)⟩ rfl (Nat.le_of_ble_eq_true rfl) (Nat.le_of_ble_eq_true rfl) (c_X7_cost (by omega)) rfl (Nat.le_of_ble_eq_true rfl) (fun vc ec => ?_)
      refine tTop (w := (nI (cst k))) ec ?_
      refine nIsub dX7_buy_48 (by omega) ?_
      refine nIast dX7_buy_49 hm.2.2.2.1 (by omega) (by omega) ?_
      refine rAload_n dX7_buy_50 rfl ?_
      refine sGetR dX7_buy_51 fl_X7_38 hm.1 (by decide) rfl ?_
      refine rBipush (v := (nI (6))) dX7_buy_54 (by decide) ?_
      refine rIload_n dX7_buy_56 rfl ?_
      refine nImul dX7_buy_57 ?_
      refine rAload_n dX7_buy_58 rfl ?_
      refine sGetR dX7_buy_59 fl_X7_35 hm.1 (by decide) rfl ?_
      refine rIload_n dX7_buy_62 rfl ?_
      refine nIald (v := (nI ((pBen (hY h p)).length))) dX7_buy_63 hm.2.2.2.2.2.2.2.2.2.1 (by omega) (by omega) (by rw [sw_a (by omega), sw_a (by omega), sw_a (by omega), bnp.1]) ?_
      refine nIadd dX7_buy_64 ?_
      refine rBipush (v := (nI (10))) dX7_buy_65 (by decide) ?_
      refine rIload_n dX7_buy_67 rfl ?_
      refine nImul dX7_buy_68 ?_
      refine rIconst (v := (nI (1))) dX7_buy_69 (by decide) ?_
      refine nIadd dX7_buy_70 ?_
      refine nIast dX7_buy_71 hm.2.2.2.2.2.2.2.2.2.2.1 (by omega) (by omega) ?_
      refine rAload_n dX7_buy_72 rfl ?_
      refine sGetR dX7_buy_73 fl_X7_35 hm.1 (by decide) rfl ?_
      refine rIload_n dX7_buy_76 rfl ?_
      refine rDup2 dX7_buy_77 rfl rfl ?_
      refine nIald (v := (nI ((pBen (hY h p)).length))) dX7_buy_78 hm.2.2.2.2.2.2.2.2.2.1 (by omega) (by omega) (by rw [sw_a (by omega), sw_a (by omega), sw_a (by omega), sw_a (by omega), bnp.1]) ?_
      refine rIconst (v := (nI (1))) dX7_buy_79 (by decide) ?_
      refine nIadd dX7_buy_80 ?_
      refine nIast dX7_buy_81 hm.2.2.2.2.2.2.2.2.2.1 (by omega) (by omega) ?_
      refine rAload_n dX7_buy_82 rfl ?_
      refine rIload_n dX7_buy_83 rfl ?_
      refine sCallVv (M' := mX7_merges) (rm' := rmD 4 0 0) (As := [.int (nI p)]) (rest := []) dX7_buy_84 rfl mk_X7_merges mi_X7_merges ll_X7_120 ⟨(Nat.le_of_ble_eq_true rfl), (Nat.le_of_ble_eq_true rfl)⟩ hm.1 (by decide) rfl rfl (Nat.le_of_ble_eq_true rfl) (Nat.le_of_ble_eq_true rfl) (c_X7_merges hm (b := (pBrd (hY h p), pBen (hY h p) ++ [10 * k + 1])) ⟨mrow_keep bdp (by simp (disch := omega) only [sw_a, sw_s, sw_i]) (fun i _ => by simp (disch := omega) only [sw_a, sw_s, sw_i]), mrow_app (mrow_keep bnp (by simp (disch := omega) only [sw_a, sw_s, sw_i]) (fun i _ => by simp (disch := omega) only [sw_a, sw_s, sw_i])) (by omega)⟩ hp (by show (pBrd (hY h p)).length ≤ 5; omega) (by rw [List.length_append]; simp only [List.length_singleton]; omega) o7p (okR_app o6p ⟨by omega, by omega, by omega⟩)) rfl (Nat.le_of_ble_eq_true rfl) (fun s2 e => ?_)
      obtain ⟨e1, e2⟩ := e
      have z3 : s2 (m + 3) p = nI (pGold (hY h p) - cst k) := by rw [e2.2 _ (by omega) (by omega) (by omega) (by omega)]; simp (disch := omega) only [sw_a, sw_s, sw_i]
      have px : mpl s2 m p (wG (wS1 (wB (hY h p) (merI 11 (pBrd (hY h p), pBen (hY h p) ++ [10 * k + 1]))) (fun i => if i = j then none else pShp (hY h p) i)) (pGold (hY h p) - cst k)) := ⟨z3, by rw [e2.2 _ (by omega) (by omega) (by omega) (by omega)]; simp (disch := omega) only [sw_a, sw_s, sw_i]; exact yp.2.1, by rw [e2.2 _ (by omega) (by omega) (by omega) (by omega)]; simp (disch := omega) only [sw_a, sw_s, sw_i]; exact yp.2.2.1, by rw [e2.2 _ (by omega) (by omega) (by omega) (by omega)]; simp (disch := omega) only [sw_a, sw_s, sw_i]; exact yp.2.2.2.1, by rw [e2.2 _ (by omega) (by omega) (by omega) (by omega)]; simp (disch := omega) only [sw_a, sw_s, sw_i]; exact yp.2.2.2.2.1, fun i hi => (by
            rw [e2.2 _ (by omega) (by omega) (by omega) (by omega)]
            show _ = shI (if i = j then none else pShp (hY h p) i)
            by_cases e : i = j
            · subst e
              simp (disch := omega) only [sw_a, sw_s, sw_i]
              exact (congrArg shI (if_pos (trivial : True) : (if True then none else pShp (hY h p) i) = none)).symm
            · simp (disch := omega) only [sw_a, sw_s, sw_i]
              rw [if_neg e]
              exact yp.2.2.2.2.2.1 i hi), e1⟩
      refine rAload_n dX7_buy_87 rfl ?_
      refine sGetR dX7_buy_88 fl_X7_16 hm.1 (by decide) rfl ?_
      refine rIload_n dX7_buy_91 rfl ?_
      refine nIald (v := (nI (pGold (hY h p) - cst k))) dX7_buy_92 hm.2.2.2.1 (by omega) (by omega) (by rw [z3]) ?_
      exact sIret dX7_buy_93 rfl rfl (Nat.le_of_ble_eq_true rfl) (Nat.le_of_ble_eq_true rfl) ⟨_, rfl, ⟨by rw [e2.2 _ (by omega) (by omega) (by omega) (by omega)]; simp (disch := omega) only [sw_a, sw_s, sw_i], fun _ => rfl, modIs_P (modIs_thr (v := nI 0) hh) hok ((((mPF_7 (by omega) (by omega)).trans (mPF_1 (a := 3) (by decide) (by decide) (by decide) (by decide))).trans ((mPF_10 (by omega) (by omega)).trans (mPF_1 (a := 9) (by decide) (by decide) (by decide) (by decide)))).trans e2.1) px, fun b hb => by rw [e2.2 _ (by omega) (by omega) (by omega) (by omega)]; simp (disch := omega) only [sw_a, sw_s, sw_i]⟩⟩
    · have c_10 : 1 = 0 := (nz_eq (by omega)).mp c_10
      exact absurd c_10 (by omega)
set_option maxRecDepth 100000 in
set_option maxHeartbeats 4000000 in
theorem c_X7_toBench {G : gG} {V : wV} {lo : Nat → Int64} {m : Nat} (hm : modAt V m) {s : sgT} {h : hT} (hh : modIs s m h) {B : Nat} (hok : hallOk B h) (hB : B ≤ 19000) {x y : Int32} : CSi G V mX7_toBench cX7_toBench (rmD 9 0 0) [.ref (ad V m), .int x, .int y] s lo (fun v s' => mPost m s (fBench h x y) v s') (fun _ => False) := by
  refine CSi.of (L := [some (.ref (ad V m)), some (.int x), some (.int y), none, none]) rfl (by decide +kernel) rfl (Nat.le_of_ble_eq_true rfl) rfl ?_
  refine rAload_n dX7_toBench_0 rfl ?_
  refine rIload_n dX7_toBench_1 rfl ?_
  refine rIload_n dX7_toBench_2 rfl ?_
  refine sCallVp (M' := mX7_isOnBoard) (rm' := rmD 3 0 0) (As := [.int x, .int y]) (rest := []) dX7_toBench_3 rfl mk_X7_isOnBoard mi_X7_isOnBoard ll_X7_132 ⟨(Nat.le_of_ble_eq_true rfl), (Nat.le_of_ble_eq_true rfl)⟩ hm.1 (by decide) rfl rfl (Nat.le_of_ble_eq_true rfl) (Nat.le_of_ble_eq_true rfl) (c_X7_isOnBoard hm hh hok hB) rfl (Nat.le_of_ble_eq_true rfl) (fun v e => ?_)
  rcases e with ⟨⟨p, hp, rfl, j, hj, rfl⟩, rfl⟩ | ⟨no, rfl⟩
  · have yp : mpl s m p (hY h p) := hh.2.2.2 p hp
    have bdp : mrow s (m + 11) (m + 12) p 5 (pBrd (hY h p)) := yp.2.2.2.2.2.2.1
    have bnp : mrow s (m + 9) (m + 10) p 6 (pBen (hY h p)) := yp.2.2.2.2.2.2.2
    obtain ⟨o1p, o2p, o3p, o4p, o5p, o6p, o7p, o8p, o9p⟩ := hok.2.2.1 p hp
    have ip : idx 4 (nI p) = some p := idx_nI hp (by decide)
    have ij : idx (pBrd (hY h p)).length (nI j) = some j := idx_nI hj (by omega)
    refine rIstore_n dX7_toBench_6 (by decide) ?_
    refine rAload_n dX7_toBench_7 rfl ?_
    refine rIload_n dX7_toBench_8 rfl ?_
    refine r_if_ne (tgt := 16) dX7_toBench_9 (by decide) (fun c_9 => ?_) (fun c_9 => ?_)
    · have c_9 : ¬ (1 = 0) := fun h => c_9 ((nz_eq (by omega)).mpr h)
      obtain ⟨u, hu⟩ : ∃ u, u = (pBrd (hY h p)).getD j 0 := ⟨_, rfl⟩
      have hu9 : okU u := hu ▸ o7p j hj
      have hu90 := okU_lt hu9
      have hu0 := hu9.1
      have q1 := bdp.2 j hj
      rw [← hu] at q1
      refine rAload_n dX7_toBench_16 rfl ?_
      refine sGetR dX7_toBench_17 fl_X7_35 hm.1 (by decide) rfl ?_
      refine rIload_n dX7_toBench_20 rfl ?_
      refine nIald (v := (nI ((pBen (hY h p)).length))) dX7_toBench_21 hm.2.2.2.2.2.2.2.2.2.1 (by omega) (by omega) (by rw [bnp.1]) ?_
      refine rBipush (v := (nI (6))) dX7_toBench_22 (by decide) ?_
      refine r_icmp_ne (tgt := 31) dX7_toBench_24 (by decide) (fun c_24 => ?_) (fun c_24 => ?_)
      · have c_24 : ¬ (((pBen (hY h p)).length) = 6) := fun h => c_24 ((nI_eq (by omega) (by omega)).mpr h)
        have hF : fBench h (nI p) (nI j) = (0, nI (merI 11 ((pBrd (hY h p)).eraseIdx j, pBen (hY h p) ++ [u])).2.length, setY h p (wB (hY h p) (merI 11 ((pBrd (hY h p)).eraseIdx j, pBen (hY h p) ++ [u])))) := by simp only [fBench, ip, ij, if_neg (show ¬ (pBen (hY h p)).length = 6 by omega), ← hu]
        rw [hF]
        refine rIconst (v := (nI (0))) dX7_toBench_31 (by decide) ?_
        refine sCallVi (M' := mX7_holds) (rm' := rmD 1 0 0) (As := [.int (nI 0)]) (rest := []) dX7_toBench_32 rfl mk_X7_holds mi_X7_holds ll_X7_71 ⟨(Nat.le_of_ble_eq_true rfl), (Nat.le_of_ble_eq_true rfl)⟩ hm.1 (by decide) rfl rfl (Nat.le_of_ble_eq_true rfl) (Nat.le_of_ble_eq_true rfl) (c_X7_holds hm (by omega)) rfl (Nat.le_of_ble_eq_true rfl) (fun v32 t32 e32 => ?_)
        obtain ⟨rfl, rfl⟩ := e32
        refine tTop (w := (nI (1))) (if_pos rfl) ?_
        refine r_if_ne (tgt := 40) dX7_toBench_35 (by decide) (fun c_35 => ?_) (fun c_35 => ?_)
        · have c_35 : ¬ (1 = 0) := fun h => c_35 ((nz_eq (by omega)).mpr h)
          refine rAload_n dX7_toBench_40 rfl ?_
          refine sGetR dX7_toBench_41 fl_X7_44 hm.1 (by decide) rfl ?_
          refine rIconst (v := (nI (5))) dX7_toBench_44 (by decide) ?_
          refine rIload_n dX7_toBench_45 rfl ?_
          refine nImul dX7_toBench_46 ?_
          refine rIload_n dX7_toBench_47 rfl ?_
          refine nIadd dX7_toBench_48 ?_
          refine nIald (v := (nI (u))) dX7_toBench_49 hm.2.2.2.2.2.2.2.2.2.2.2.2.1 (by omega) (by omega) (by rw [sw_a (by omega), q1]) ?_
          refine rIstore dX7_toBench_50 (by decide) ?_
          refine rAload_n dX7_toBench_52 rfl ?_
          refine rIload_n dX7_toBench_53 rfl ?_
          refine rIload_n dX7_toBench_54 rfl ?_
          refine sCallVv (M' := mX7_takesOffBoard) (rm' := rmD 1 0 0) (As := [.int (nI p), .int (nI j)]) (rest := []) dX7_toBench_55 rfl mk_X7_takesOffBoard mi_X7_takesOffBoard ll_X7_93 ⟨(Nat.le_of_ble_eq_true rfl), (Nat.le_of_ble_eq_true rfl)⟩ hm.1 (by decide) rfl rfl (Nat.le_of_ble_eq_true rfl) (Nat.le_of_ble_eq_true rfl) (c_X7_takesOffBoard hm (mrow_keep bdp (by rw [sw_a (by omega)]) (fun i _ => by rw [sw_a (by omega)])) (by omega) hp hj) rfl (Nat.le_of_ble_eq_true rfl) (fun s1 e => ?_)
          obtain ⟨e1, e2⟩ := e
          have hb1 : mrow s1 (m + 9) (m + 10) p 6 (pBen (hY h p)) := mrow_keep bnp (by rw [e2.1 _ (by omega) (by omega), sw_a (by omega)]) (fun i _ => by rw [e2.1 _ (by omega) (by omega), sw_a (by omega)])
          refine rAload_n dX7_toBench_58 rfl ?_
          refine sGetR dX7_toBench_59 fl_X7_38 hm.1 (by decide) rfl ?_
          refine rBipush (v := (nI (6))) dX7_toBench_62 (by decide) ?_
          refine rIload_n dX7_toBench_64 rfl ?_
          refine nImul dX7_toBench_65 ?_
          refine rAload_n dX7_toBench_66 rfl ?_
          refine sGetR dX7_toBench_67 fl_X7_35 hm.1 (by decide) rfl ?_
          refine rIload_n dX7_toBench_70 rfl ?_
          refine nIald (v := (nI ((pBen (hY h p)).length))) dX7_toBench_71 hm.2.2.2.2.2.2.2.2.2.1 (by omega) (by omega) (by rw [hb1.1]) ?_
          refine nIadd dX7_toBench_72 ?_
          refine rIload dX7_toBench_73 rfl ?_
          refine nIast dX7_toBench_75 hm.2.2.2.2.2.2.2.2.2.2.1 (by omega) (by omega) ?_
          refine rAload_n dX7_toBench_76 rfl ?_
          refine sGetR dX7_toBench_77 fl_X7_35 hm.1 (by decide) rfl ?_
          refine rIload_n dX7_toBench_80 rfl ?_
          refine rDup2 dX7_toBench_81 rfl rfl ?_
          refine nIald (v := (nI ((pBen (hY h p)).length))) dX7_toBench_82 hm.2.2.2.2.2.2.2.2.2.1 (by omega) (by omega) (by rw [sw_a (by omega), hb1.1]) ?_
          refine rIconst (v := (nI (1))) dX7_toBench_83 (by decide) ?_
          refine nIadd dX7_toBench_84 ?_
          refine nIast dX7_toBench_85 hm.2.2.2.2.2.2.2.2.2.1 (by omega) (by omega) ?_
          refine rAload_n dX7_toBench_86 rfl ?_
          refine rIload_n dX7_toBench_87 rfl ?_
          have hl9 := era_len hj
          refine sCallVv (M' := mX7_merges) (rm' := rmD 4 0 0) (As := [.int (nI p)]) (rest := []) dX7_toBench_88 rfl mk_X7_merges mi_X7_merges ll_X7_120 ⟨(Nat.le_of_ble_eq_true rfl), (Nat.le_of_ble_eq_true rfl)⟩ hm.1 (by decide) rfl rfl (Nat.le_of_ble_eq_true rfl) (Nat.le_of_ble_eq_true rfl) (c_X7_merges hm (b := ((pBrd (hY h p)).eraseIdx j, pBen (hY h p) ++ [u])) ⟨mrow_keep e1 (by rw [sw_a (by omega), sw_a (by omega)]) (fun i _ => by rw [sw_a (by omega), sw_a (by omega)]), mrow_app hb1 (by omega)⟩ hp (by show ((pBrd (hY h p)).eraseIdx j).length ≤ 5; omega) (by rw [List.length_append]; simp only [List.length_singleton]; omega) (okR_era o7p) (okR_app o6p hu9)) rfl (Nat.le_of_ble_eq_true rfl) (fun s2 f => ?_)
          obtain ⟨f1, f2⟩ := f
          refine rAload_n dX7_toBench_91 rfl ?_
          refine sGetR dX7_toBench_92 fl_X7_35 hm.1 (by decide) rfl ?_
          refine rIload_n dX7_toBench_95 rfl ?_
          refine nIald (v := (nI ((merI 11 ((pBrd (hY h p)).eraseIdx j, pBen (hY h p) ++ [u])).2.length))) dX7_toBench_96 hm.2.2.2.2.2.2.2.2.2.1 (by omega) (by omega) (by rw [f1.2.1]) ?_
          exact sIret dX7_toBench_97 rfl rfl (Nat.le_of_ble_eq_true rfl) (Nat.le_of_ble_eq_true rfl) ⟨_, rfl, ⟨by rw [f2.2 _ (by omega) (by omega) (by omega) (by omega), sw_a (by omega), sw_a (by omega), e2.1 _ (by omega) (by omega), sw_s], fun _ => rfl, modIs_P (modIs_thr (v := nI 0) hh) hok ((e2.m5.trans ((mPF_10 (by omega) (by omega)).trans (mPF_1 (a := 9) (by decide) (by decide) (by decide) (by decide)))).trans f2.1) (mPF.bb (mpl_thr yp) (fun a h1 h2 => by rw [f2.2 _ (by omega) (by omega) (by omega) (by omega), sw_a (by omega), sw_a (by omega), e2.1 _ (by omega) (by omega)]) f1), fun b hb => by rw [f2.2 _ (by omega) (by omega) (by omega) (by omega), sw_a (by omega), sw_a (by omega), e2.1 _ (by omega) (by omega), sw_a (by omega)]⟩⟩
        · have c_35 : 1 = 0 := (nz_eq (by omega)).mp c_35
          exact absurd c_35 (by omega)
      · have c_24 : ((pBen (hY h p)).length) = 6 := (nI_eq (by omega) (by omega)).mp c_24
        have hF : fBench h (nI p) (nI j) = (2, 0, h) := by simp only [fBench, ip, ij, if_pos (show (pBen (hY h p)).length = 6 by omega)]
        rw [hF]
        refine rIconst (v := (nI (2))) dX7_toBench_27 (by decide) ?_
        refine rGoto (tgt := 32) dX7_toBench_28 (by decide) ?_
        refine sCallVi (M' := mX7_holds) (rm' := rmD 1 0 0) (As := [.int (nI 2)]) (rest := []) dX7_toBench_32 rfl mk_X7_holds mi_X7_holds ll_X7_71 ⟨(Nat.le_of_ble_eq_true rfl), (Nat.le_of_ble_eq_true rfl)⟩ hm.1 (by decide) rfl rfl (Nat.le_of_ble_eq_true rfl) (Nat.le_of_ble_eq_true rfl) (c_X7_holds hm (by omega)) rfl (Nat.le_of_ble_eq_true rfl) (fun v32 t32 e32 => ?_)
        obtain ⟨rfl, rfl⟩ := e32
        refine tTop (w := (nI (0))) (if_neg (by decide)) ?_
        refine r_if_ne (tgt := 40) dX7_toBench_35 (by decide) (fun c_35 => ?_) (fun c_35 => ?_)
        · have c_35 : ¬ (0 = 0) := fun h => c_35 ((nz_eq (by omega)).mpr h)
          exact absurd c_35 (by omega)
        · have c_35 : 0 = 0 := (nz_eq (by omega)).mp c_35
          refine rIconst (v := (nI (0))) dX7_toBench_38 (by decide) ?_
          exact sIret dX7_toBench_39 rfl rfl (Nat.le_of_ble_eq_true rfl) (Nat.le_of_ble_eq_true rfl) ⟨_, rfl, ⟨sw_s, fun e => absurd e (Nat.succ_ne_zero _), modIs_thr hh, fun b hb => sw_a (by omega)⟩⟩
    · have c_9 : 1 = 0 := (nz_eq (by omega)).mp c_9
      exact absurd c_9 (by omega)
  · refine rIstore_n dX7_toBench_6 (by decide) ?_
    refine rAload_n dX7_toBench_7 rfl ?_
    refine rIload_n dX7_toBench_8 rfl ?_
    refine r_if_ne (tgt := 16) dX7_toBench_9 (by decide) (fun c_9 => ?_) (fun c_9 => ?_)
    · have c_9 : ¬ (0 = 0) := fun h => c_9 ((nz_eq (by omega)).mpr h)
      exact absurd c_9 (by omega)
    · have c_9 : 0 = 0 := (nz_eq (by omega)).mp c_9
      have hF : fBench h x y = (1, 0, h) := by rcases ask_no (n := fun p => (pBrd (hY h p)).length) no with e | ⟨p, e, e2⟩ <;> simp only [fBench, *]
      rw [hF]
      refine rIconst (v := (nI (1))) dX7_toBench_12 (by decide) ?_
      refine rGoto (tgt := 32) dX7_toBench_13 (by decide) ?_
      refine sCallVi (M' := mX7_holds) (rm' := rmD 1 0 0) (As := [.int (nI 1)]) (rest := []) dX7_toBench_32 rfl mk_X7_holds mi_X7_holds ll_X7_71 ⟨(Nat.le_of_ble_eq_true rfl), (Nat.le_of_ble_eq_true rfl)⟩ hm.1 (by decide) rfl rfl (Nat.le_of_ble_eq_true rfl) (Nat.le_of_ble_eq_true rfl) (c_X7_holds hm (by omega)) rfl (Nat.le_of_ble_eq_true rfl) (fun v32 t32 e32 => ?_)
      obtain ⟨rfl, rfl⟩ := e32
      refine tTop (w := (nI (0))) (if_neg (by decide)) ?_
      refine r_if_ne (tgt := 40) dX7_toBench_35 (by decide) (fun c_35 => ?_) (fun c_35 => ?_)
      · have c_35 : ¬ (0 = 0) := fun h => c_35 ((nz_eq (by omega)).mpr h)
        exact absurd c_35 (by omega)
      · have c_35 : 0 = 0 := (nz_eq (by omega)).mp c_35
        refine rIconst (v := (nI (0))) dX7_toBench_38 (by decide) ?_
        exact sIret dX7_toBench_39 rfl rfl (Nat.le_of_ble_eq_true rfl) (Nat.le_of_ble_eq_true rfl) ⟨_, rfl, ⟨sw_s, fun e => absurd e (Nat.succ_ne_zero _), modIs_thr hh, fun b hb => sw_a (by omega)⟩⟩
set_option maxRecDepth 100000 in
set_option maxHeartbeats 4000000 in
theorem c_X7_wins {G : gG} {V : wV} {lo : Nat → Int64} {m : Nat} (hm : modAt V m) {s : sgT} {h : hT} (hh : modIs s m h) {B : Nat} (hok : hallOk B h) (hB : B ≤ 19000) {p q d : Nat} (hp : p < 4) (hq : q < 4) (hpq : ¬ p = q) (hd : d < 1000) : CSv G V mX7_wins cX7_wins (rmD 2 0 0) [.ref (ad V m), .int (nI p), .int (nI q), .int (nI d)] s lo (fun s' => modIs s' m (setY (setY h p (winY (hY h p))) q (loseY (hY h q) (d + 1))) ∧ s' m 0 = s m 0 ∧ mFr s s' m) (fun _ => False) := by
  refine CSv.of (L := [some (.ref (ad V m)), some (.int (nI p)), some (.int (nI q)), some (.int (nI d))]) rfl (by decide +kernel) rfl (Nat.le_of_ble_eq_true rfl) rfl ?_
  have yp : mpl s m p (hY h p) := hh.2.2.2 p hp
  have bdp : mrow s (m + 11) (m + 12) p 5 (pBrd (hY h p)) := yp.2.2.2.2.2.2.1
  have bnp : mrow s (m + 9) (m + 10) p 6 (pBen (hY h p)) := yp.2.2.2.2.2.2.2
  obtain ⟨o1p, o2p, o3p, o4p, o5p, o6p, o7p, o8p, o9p⟩ := hok.2.2.1 p hp
  have yq : mpl s m q (hY h q) := hh.2.2.2 q hq
  have bdq : mrow s (m + 11) (m + 12) q 5 (pBrd (hY h q)) := yq.2.2.2.2.2.2.1
  have bnq : mrow s (m + 9) (m + 10) q 6 (pBen (hY h q)) := yq.2.2.2.2.2.2.2
  obtain ⟨o1q, o2q, o3q, o4q, o5q, o6q, o7q, o8q, o9q⟩ := hok.2.2.1 q hq
  refine rAload_n dX7_wins_0 rfl ?_
  refine sGetR dX7_wins_1 fl_X7_22 hm.1 (by decide) rfl ?_
  refine rIload_n dX7_wins_4 rfl ?_
  refine rDup2 dX7_wins_5 rfl rfl ?_
  refine nIald (v := (nI (pHth (hY h q)))) dX7_wins_6 hm.2.2.2.2.2.1 (by omega) (by omega) (by rw [yq.2.2.1]) ?_
  refine rIload_n dX7_wins_7 rfl ?_
  refine rIconst (v := (nI (1))) dX7_wins_8 (by decide) ?_
  refine nIadd dX7_wins_9 ?_
  refine rAload_n dX7_wins_10 rfl ?_
  refine sGetR dX7_wins_11 fl_X7_22 hm.1 (by decide) rfl ?_
  refine rIload_n dX7_wins_14 rfl ?_
  refine nIald (v := (nI (pHth (hY h q)))) dX7_wins_15 hm.2.2.2.2.2.1 (by omega) (by omega) (by rw [yq.2.2.1]) ?_
  refine sCallSp (M' := mX7_least) (rm' := rmD 1 0 0) (As := [.int (nI (d + 1)), .int (nI (pHth (hY h q)))]) (rest := [.int (nI (pHth (hY h q))), .int (nI q), .ref (ad V (m + 5))]) dX7_wins_16 rfl mk_X7_least ms_X7_least ll_X7_129 ⟨(Nat.le_of_ble_eq_true rfl), (Nat.le_of_ble_eq_true rfl)⟩ rfl (Nat.le_of_ble_eq_true rfl) (Nat.le_of_ble_eq_true rfl) (c_X7_least (by omega) (by omega)) rfl (Nat.le_of_ble_eq_true rfl) (fun vl el => ?_)
  refine tTop (w := (nI (min (d + 1) (pHth (hY h q))))) el ?_
  refine nIsub dX7_wins_19 (by omega) ?_
  refine nIast dX7_wins_20 hm.2.2.2.2.2.1 (by omega) (by omega) ?_
  refine rAload_n dX7_wins_21 rfl ?_
  refine sGetR dX7_wins_22 fl_X7_25 hm.1 (by decide) rfl ?_
  refine rIload_n dX7_wins_25 rfl ?_
  refine rAload_n dX7_wins_26 rfl ?_
  refine sGetR dX7_wins_27 fl_X7_25 hm.1 (by decide) rfl ?_
  refine rIload_n dX7_wins_30 rfl ?_
  refine nIald (v := (pStk (hY h p))) dX7_wins_31 hm.2.2.2.2.2.2.1 (by omega) (by omega) (by rw [sw_a (by omega), yp.2.2.2.1]) ?_
  refine r_if_le (tgt := 46) dX7_wins_32 (by decide) (fun c_32 => ?_) (fun c_32 => ?_)
  · refine rIconst (v := (nI (1))) dX7_wins_46 (by decide) ?_
    refine nIast dX7_wins_47 hm.2.2.2.2.2.2.1 (by omega) (by omega) ?_
    refine rAload_n dX7_wins_48 rfl ?_
    refine sGetR dX7_wins_49 fl_X7_25 hm.1 (by decide) rfl ?_
    refine rIload_n dX7_wins_52 rfl ?_
    refine rAload_n dX7_wins_53 rfl ?_
    refine sGetR dX7_wins_54 fl_X7_25 hm.1 (by decide) rfl ?_
    refine rIload_n dX7_wins_57 rfl ?_
    refine nIald (v := (pStk (hY h q))) dX7_wins_58 hm.2.2.2.2.2.2.1 (by omega) (by omega) (by rw [sw_i (by omega), sw_a (by omega), yq.2.2.2.1]) ?_
    refine r_if_ge (tgt := 73) dX7_wins_59 (by decide) (fun c_59 => ?_) (fun c_59 => ?_)
    · have hw : stkW (pStk (hY h p)) = nI 1 := if_pos c_32
      have hl : stkL (pStk (hY h q)) = -1 := if_pos c_59
      refine rIconst (v := (-1)) dX7_wins_73 (by decide) ?_
      refine nIast dX7_wins_74 hm.2.2.2.2.2.2.1 (by omega) (by omega) ?_
      have g1 := modIs_P (x := wH (hY h q) (pHth (hY h q) - min (d + 1) (pHth (hY h q)))) hh hok (mPF_1 (a := 5) (v := nI (pHth (hY h q) - min (d + 1) (pHth (hY h q)))) (by decide) (by decide) (by decide) (by decide)) (mpl_H yq)
      have k1 := hallOk_P (p := q) hok (plOk_H (g := (pHth (hY h q) - min (d + 1) (pHth (hY h q)))) (hok.2.2.1 q hq) (by omega))
      have yp1 := g1.2.2.2 p hp
      rw [setY_ne hpq] at yp1
      have g2 := modIs_P (x := winY (hY h p)) g1 k1 (mPF_1 (a := 6) (v := stkW (pStk (hY h p))) (by decide) (by decide) (by decide) (by decide)) (mpl_K yp1)
      have k2 := hallOk_P (p := p) k1 (plOk_win (hok.2.2.1 p hp))
      have yq1 := g2.2.2.2 q hq
      rw [setY_ne (fun e => hpq e.symm), setY_at] at yq1
      have g3 := modIs_P (x := loseY (hY h q) (d + 1)) g2 k2 (mPF_1 (a := 6) (v := stkL (pStk (hY h q))) (by decide) (by decide) (by decide) (by decide)) (mpl_K yq1)
      rw [hw, hl] at g3
      exact sVret dX7_wins_75 rfl (Nat.le_of_ble_eq_true rfl) (Nat.le_of_ble_eq_true rfl) ⟨rfl, ⟨modIs_ext g3 rfl rfl (fun i hi => (by
            show (if i = q then _ else if i = p then _ else if i = q then _ else hY h i) = if i = q then _ else if i = p then _ else hY h i
            by_cases e : i = q
            · rw [if_pos e, if_pos e]
            · rw [if_neg e, if_neg e, if_neg e])) rfl, by rw [sw_a (by omega), sw_a (by omega), sw_a (by omega)], fun b hb => by rw [sw_a (by omega), sw_a (by omega), sw_a (by omega)]⟩⟩
    · have hw : stkW (pStk (hY h p)) = nI 1 := if_pos c_32
      have hl : stkL (pStk (hY h q)) = pStk (hY h q) - nI 1 := if_neg c_59
      refine rAload_n dX7_wins_62 rfl ?_
      refine sGetR dX7_wins_63 fl_X7_25 hm.1 (by decide) rfl ?_
      refine rIload_n dX7_wins_66 rfl ?_
      refine nIald (v := (pStk (hY h q))) dX7_wins_67 hm.2.2.2.2.2.2.1 (by omega) (by omega) (by rw [sw_i (by omega), sw_a (by omega), yq.2.2.2.1]) ?_
      refine rIconst (v := (nI (1))) dX7_wins_68 (by decide) ?_
      refine rIsub dX7_wins_69 ?_
      refine rGoto (tgt := 74) dX7_wins_70 (by decide) ?_
      refine nIast dX7_wins_74 hm.2.2.2.2.2.2.1 (by omega) (by omega) ?_
      have g1 := modIs_P (x := wH (hY h q) (pHth (hY h q) - min (d + 1) (pHth (hY h q)))) hh hok (mPF_1 (a := 5) (v := nI (pHth (hY h q) - min (d + 1) (pHth (hY h q)))) (by decide) (by decide) (by decide) (by decide)) (mpl_H yq)
      have k1 := hallOk_P (p := q) hok (plOk_H (g := (pHth (hY h q) - min (d + 1) (pHth (hY h q)))) (hok.2.2.1 q hq) (by omega))
      have yp1 := g1.2.2.2 p hp
      rw [setY_ne hpq] at yp1
      have g2 := modIs_P (x := winY (hY h p)) g1 k1 (mPF_1 (a := 6) (v := stkW (pStk (hY h p))) (by decide) (by decide) (by decide) (by decide)) (mpl_K yp1)
      have k2 := hallOk_P (p := p) k1 (plOk_win (hok.2.2.1 p hp))
      have yq1 := g2.2.2.2 q hq
      rw [setY_ne (fun e => hpq e.symm), setY_at] at yq1
      have g3 := modIs_P (x := loseY (hY h q) (d + 1)) g2 k2 (mPF_1 (a := 6) (v := stkL (pStk (hY h q))) (by decide) (by decide) (by decide) (by decide)) (mpl_K yq1)
      rw [hw, hl] at g3
      exact sVret dX7_wins_75 rfl (Nat.le_of_ble_eq_true rfl) (Nat.le_of_ble_eq_true rfl) ⟨rfl, ⟨modIs_ext g3 rfl rfl (fun i hi => (by
            show (if i = q then _ else if i = p then _ else if i = q then _ else hY h i) = if i = q then _ else if i = p then _ else hY h i
            by_cases e : i = q
            · rw [if_pos e, if_pos e]
            · rw [if_neg e, if_neg e, if_neg e])) rfl, by rw [sw_a (by omega), sw_a (by omega), sw_a (by omega)], fun b hb => by rw [sw_a (by omega), sw_a (by omega), sw_a (by omega)]⟩⟩
  · refine rAload_n dX7_wins_35 rfl ?_
    refine sGetR dX7_wins_36 fl_X7_25 hm.1 (by decide) rfl ?_
    refine rIload_n dX7_wins_39 rfl ?_
    refine nIald (v := (pStk (hY h p))) dX7_wins_40 hm.2.2.2.2.2.2.1 (by omega) (by omega) (by rw [sw_a (by omega), yp.2.2.2.1]) ?_
    refine rIconst (v := (nI (1))) dX7_wins_41 (by decide) ?_
    refine rIadd dX7_wins_42 ?_
    refine rGoto (tgt := 47) dX7_wins_43 (by decide) ?_
    refine nIast dX7_wins_47 hm.2.2.2.2.2.2.1 (by omega) (by omega) ?_
    refine rAload_n dX7_wins_48 rfl ?_
    refine sGetR dX7_wins_49 fl_X7_25 hm.1 (by decide) rfl ?_
    refine rIload_n dX7_wins_52 rfl ?_
    refine rAload_n dX7_wins_53 rfl ?_
    refine sGetR dX7_wins_54 fl_X7_25 hm.1 (by decide) rfl ?_
    refine rIload_n dX7_wins_57 rfl ?_
    refine nIald (v := (pStk (hY h q))) dX7_wins_58 hm.2.2.2.2.2.2.1 (by omega) (by omega) (by rw [sw_i (by omega), sw_a (by omega), yq.2.2.2.1]) ?_
    refine r_if_ge (tgt := 73) dX7_wins_59 (by decide) (fun c_59 => ?_) (fun c_59 => ?_)
    · have hw : stkW (pStk (hY h p)) = pStk (hY h p) + nI 1 := if_neg c_32
      have hl : stkL (pStk (hY h q)) = -1 := if_pos c_59
      refine rIconst (v := (-1)) dX7_wins_73 (by decide) ?_
      refine nIast dX7_wins_74 hm.2.2.2.2.2.2.1 (by omega) (by omega) ?_
      have g1 := modIs_P (x := wH (hY h q) (pHth (hY h q) - min (d + 1) (pHth (hY h q)))) hh hok (mPF_1 (a := 5) (v := nI (pHth (hY h q) - min (d + 1) (pHth (hY h q)))) (by decide) (by decide) (by decide) (by decide)) (mpl_H yq)
      have k1 := hallOk_P (p := q) hok (plOk_H (g := (pHth (hY h q) - min (d + 1) (pHth (hY h q)))) (hok.2.2.1 q hq) (by omega))
      have yp1 := g1.2.2.2 p hp
      rw [setY_ne hpq] at yp1
      have g2 := modIs_P (x := winY (hY h p)) g1 k1 (mPF_1 (a := 6) (v := stkW (pStk (hY h p))) (by decide) (by decide) (by decide) (by decide)) (mpl_K yp1)
      have k2 := hallOk_P (p := p) k1 (plOk_win (hok.2.2.1 p hp))
      have yq1 := g2.2.2.2 q hq
      rw [setY_ne (fun e => hpq e.symm), setY_at] at yq1
      have g3 := modIs_P (x := loseY (hY h q) (d + 1)) g2 k2 (mPF_1 (a := 6) (v := stkL (pStk (hY h q))) (by decide) (by decide) (by decide) (by decide)) (mpl_K yq1)
      rw [hw, hl] at g3
      exact sVret dX7_wins_75 rfl (Nat.le_of_ble_eq_true rfl) (Nat.le_of_ble_eq_true rfl) ⟨rfl, ⟨modIs_ext g3 rfl rfl (fun i hi => (by
            show (if i = q then _ else if i = p then _ else if i = q then _ else hY h i) = if i = q then _ else if i = p then _ else hY h i
            by_cases e : i = q
            · rw [if_pos e, if_pos e]
            · rw [if_neg e, if_neg e, if_neg e])) rfl, by rw [sw_a (by omega), sw_a (by omega), sw_a (by omega)], fun b hb => by rw [sw_a (by omega), sw_a (by omega), sw_a (by omega)]⟩⟩
    · have hw : stkW (pStk (hY h p)) = pStk (hY h p) + nI 1 := if_neg c_32
      have hl : stkL (pStk (hY h q)) = pStk (hY h q) - nI 1 := if_neg c_59
      refine rAload_n dX7_wins_62 rfl ?_
      refine sGetR dX7_wins_63 fl_X7_25 hm.1 (by decide) rfl ?_
      refine rIload_n dX7_wins_66 rfl ?_
      refine nIald (v := (pStk (hY h q))) dX7_wins_67 hm.2.2.2.2.2.2.1 (by omega) (by omega) (by rw [sw_i (by omega), sw_a (by omega), yq.2.2.2.1]) ?_
      refine rIconst (v := (nI (1))) dX7_wins_68 (by decide) ?_
      refine rIsub dX7_wins_69 ?_
      refine rGoto (tgt := 74) dX7_wins_70 (by decide) ?_
      refine nIast dX7_wins_74 hm.2.2.2.2.2.2.1 (by omega) (by omega) ?_
      have g1 := modIs_P (x := wH (hY h q) (pHth (hY h q) - min (d + 1) (pHth (hY h q)))) hh hok (mPF_1 (a := 5) (v := nI (pHth (hY h q) - min (d + 1) (pHth (hY h q)))) (by decide) (by decide) (by decide) (by decide)) (mpl_H yq)
      have k1 := hallOk_P (p := q) hok (plOk_H (g := (pHth (hY h q) - min (d + 1) (pHth (hY h q)))) (hok.2.2.1 q hq) (by omega))
      have yp1 := g1.2.2.2 p hp
      rw [setY_ne hpq] at yp1
      have g2 := modIs_P (x := winY (hY h p)) g1 k1 (mPF_1 (a := 6) (v := stkW (pStk (hY h p))) (by decide) (by decide) (by decide) (by decide)) (mpl_K yp1)
      have k2 := hallOk_P (p := p) k1 (plOk_win (hok.2.2.1 p hp))
      have yq1 := g2.2.2.2 q hq
      rw [setY_ne (fun e => hpq e.symm), setY_at] at yq1
      have g3 := modIs_P (x := loseY (hY h q) (d + 1)) g2 k2 (mPF_1 (a := 6) (v := stkL (pStk (hY h q))) (by decide) (by decide) (by decide) (by decide)) (mpl_K yq1)
      rw [hw, hl] at g3
      exact sVret dX7_wins_75 rfl (Nat.le_of_ble_eq_true rfl) (Nat.le_of_ble_eq_true rfl) ⟨rfl, ⟨modIs_ext g3 rfl rfl (fun i hi => (by
            show (if i = q then _ else if i = p then _ else if i = q then _ else hY h i) = if i = q then _ else if i = p then _ else hY h i
            by_cases e : i = q
            · rw [if_pos e, if_pos e]
            · rw [if_neg e, if_neg e, if_neg e])) rfl, by rw [sw_a (by omega), sw_a (by omega), sw_a (by omega)], fun b hb => by rw [sw_a (by omega), sw_a (by omega), sw_a (by omega)]⟩⟩
set_option maxRecDepth 100000 in
set_option maxHeartbeats 4000000 in
theorem c_X7_pairs {G : gG} {V : wV} {lo : Nat → Int64} {m : Nat} (hm : modAt V m) {s : sgT} {h : hT} (hh : modIs s m h) {B : Nat} (hok : hallOk B h) (hB : B ≤ 19000) {p q : Nat} (hp : p < 4) (hq : q < 4) (hpq : ¬ p = q) : CSv G V mX7_pairs cX7_pairs (rmD 6 0 0) [.ref (ad V m), .int (nI p), .int (nI q)] s lo (fun s' => modIs s' m (pairH h p q) ∧ s' m 0 = s m 0 ∧ mFr s s' m) (fun _ => False) := by
  refine CSv.of (L := [some (.ref (ad V m)), some (.int (nI p)), some (.int (nI q)), none]) rfl (by decide +kernel) rfl (Nat.le_of_ble_eq_true rfl) rfl ?_
  refine rAload_n dX7_pairs_0 rfl ?_
  refine rIload_n dX7_pairs_1 rfl ?_
  refine rIload_n dX7_pairs_2 rfl ?_
  refine sCallVi (M' := mX7_fought) (rm' := rmD 5 0 0) (As := [.int (nI p), .int (nI q)]) (rest := []) dX7_pairs_3 rfl mk_X7_fought mi_X7_fought ll_X7_147 ⟨(Nat.le_of_ble_eq_true rfl), (Nat.le_of_ble_eq_true rfl)⟩ hm.1 (by decide) rfl rfl (Nat.le_of_ble_eq_true rfl) (Nat.le_of_ble_eq_true rfl) (c_X7_fought hm hh hok hB hp hq) rfl (Nat.le_of_ble_eq_true rfl) (fun v s1 e => ?_)
  obtain ⟨g, e2, e3, e4⟩ := e
  obtain ⟨a, ha⟩ : ∃ a, a = livA (pBrd (hY h p)) (pBrd (hY h q)) := ⟨_, rfl⟩
  obtain ⟨b, hb⟩ : ∃ b, b = livB (pBrd (hY h p)) (pBrd (hY h q)) := ⟨_, rfl⟩
  have ha6 : a ≤ (pBrd (hY h p)).length := ha ▸ livN_le _
  have hb6 : b ≤ (pBrd (hY h q)).length := hb ▸ livN_le _
  have ha7 := (hok.2.2.1 p hp).2.2.2.2.2.2.2.2
  have ha8 := (hok.2.2.1 p hp).2.2.1
  have hb7 := (hok.2.2.1 q hq).2.2.2.2.2.2.2.2
  have hb8 := (hok.2.2.1 q hq).2.2.1
  obtain ⟨z1, z2, z3, z4⟩ := fight_res a (by omega) b (by omega)
  have z5 := fight_neg a (by omega) b (by omega)
  rw [← ha, ← hb] at g
  refine tTop (w := (nI a - nI b)) g ?_
  have hPe : pairH h p q = if b < a then setY (setY h p (winY (hY h p))) q (loseY (hY h q) (a - b + 1)) else if a < b then setY (setY h q (winY (hY h q))) p (loseY (hY h p) (b - a + 1)) else setY (setY h p (wK (hY h p) 0)) q (wK (hY h q) 0) := by rw [ha, hb]; rfl
  refine rIstore_n dX7_pairs_6 (by decide) ?_
  refine rIload_n dX7_pairs_7 rfl ?_
  refine r_if_le (tgt := 21) dX7_pairs_8 (by decide) (fun c_8 => ?_) (fun c_8 => ?_)
  · have hnl : ¬ b < a := z1.mp c_8
    rw [if_neg hnl] at hPe
    refine rIload_n dX7_pairs_21 rfl ?_
    refine r_if_ge (tgt := 36) dX7_pairs_22 (by decide) (fun c_22 => ?_) (fun c_22 => ?_)
    · have hnl2 : ¬ a < b := z2.mp c_22
      rw [if_neg hnl2] at hPe
      rw [hPe]
      refine rAload_n dX7_pairs_36 rfl ?_
      refine sGetR dX7_pairs_37 fl_X7_25 hm.1 (by decide) rfl ?_
      refine rIload_n dX7_pairs_40 rfl ?_
      refine rIconst (v := (nI (0))) dX7_pairs_41 (by decide) ?_
      refine nIast dX7_pairs_42 hm.2.2.2.2.2.2.1 (by omega) (by omega) ?_
      refine rAload_n dX7_pairs_43 rfl ?_
      refine sGetR dX7_pairs_44 fl_X7_25 hm.1 (by decide) rfl ?_
      refine rIload_n dX7_pairs_47 rfl ?_
      refine rIconst (v := (nI (0))) dX7_pairs_48 (by decide) ?_
      refine nIast dX7_pairs_49 hm.2.2.2.2.2.2.1 (by omega) (by omega) ?_
      have g1 := modIs_P (x := wK (hY h p) 0) e2 hok (mPF_1 (a := 6) (v := 0) (by decide) (by decide) (by decide) (by decide)) (mpl_K (e2.2.2.2 p hp))
      have yq1 := g1.2.2.2 q hq
      rw [setY_ne (fun e => hpq e.symm)] at yq1
      have g2 := modIs_P (x := wK (hY h q) 0) g1 (hallOk_P hok (plOk_wK (hok.2.2.1 p hp))) (mPF_1 (a := 6) (v := 0) (by decide) (by decide) (by decide) (by decide)) (mpl_K yq1)
      exact sVret dX7_pairs_50 rfl (Nat.le_of_ble_eq_true rfl) (Nat.le_of_ble_eq_true rfl) ⟨rfl, ⟨g2, by rw [sw_a (by omega), sw_a (by omega), e3], fun b hb => by rw [sw_a (by omega), sw_a (by omega), e4 b hb]⟩⟩
    · have hlt : a < b := Classical.byContradiction (fun c => c_22 (z2.mpr c))
      rw [if_pos hlt] at hPe
      rw [hPe]
      refine rAload_n dX7_pairs_25 rfl ?_
      refine rIload_n dX7_pairs_26 rfl ?_
      refine rIload_n dX7_pairs_27 rfl ?_
      refine rIload_n dX7_pairs_28 rfl ?_
      refine rIneg dX7_pairs_29 ?_
      refine tTop (w := (nI (b - a))) (z5 hlt) ?_
      refine sCallVv (M' := mX7_wins) (rm' := rmD 2 0 0) (As := [.int (nI q), .int (nI p), .int (nI (b - a))]) (rest := []) dX7_pairs_30 rfl mk_X7_wins mi_X7_wins ll_X7_150 ⟨(Nat.le_of_ble_eq_true rfl), (Nat.le_of_ble_eq_true rfl)⟩ hm.1 (by decide) rfl rfl (Nat.le_of_ble_eq_true rfl) (Nat.le_of_ble_eq_true rfl) (c_X7_wins hm e2 hok hB hq hp (fun e => hpq e.symm) (by omega)) rfl (Nat.le_of_ble_eq_true rfl) (fun s2 f => ?_)
      obtain ⟨f1, f2, f3⟩ := f
      refine rGoto (tgt := 50) dX7_pairs_33 (by decide) ?_
      exact sVret dX7_pairs_50 rfl (Nat.le_of_ble_eq_true rfl) (Nat.le_of_ble_eq_true rfl) ⟨rfl, ⟨f1, by rw [f2, e3], e4.trans f3⟩⟩
  · have hlt : b < a := Classical.byContradiction (fun c => c_8 (z1.mpr c))
    rw [if_pos hlt] at hPe
    rw [hPe]
    refine rAload_n dX7_pairs_11 rfl ?_
    refine rIload_n dX7_pairs_12 rfl ?_
    refine rIload_n dX7_pairs_13 rfl ?_
    refine rIload_n dX7_pairs_14 rfl ?_
    refine tTop (w := (nI (a - b))) (pk_sub (by omega)) ?_
    refine sCallVv (M' := mX7_wins) (rm' := rmD 2 0 0) (As := [.int (nI p), .int (nI q), .int (nI (a - b))]) (rest := []) dX7_pairs_15 rfl mk_X7_wins mi_X7_wins ll_X7_150 ⟨(Nat.le_of_ble_eq_true rfl), (Nat.le_of_ble_eq_true rfl)⟩ hm.1 (by decide) rfl rfl (Nat.le_of_ble_eq_true rfl) (Nat.le_of_ble_eq_true rfl) (c_X7_wins hm e2 hok hB hp hq hpq (by omega)) rfl (Nat.le_of_ble_eq_true rfl) (fun s2 f => ?_)
    obtain ⟨f1, f2, f3⟩ := f
    refine rGoto (tgt := 50) dX7_pairs_18 (by decide) ?_
    exact sVret dX7_pairs_50 rfl (Nat.le_of_ble_eq_true rfl) (Nat.le_of_ble_eq_true rfl) ⟨rfl, ⟨f1, by rw [f2, e3], e4.trans f3⟩⟩
