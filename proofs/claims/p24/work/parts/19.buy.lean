/-! buy (by program) -/
set_option maxRecDepth 100000 in
set_option maxHeartbeats 4000000 in
theorem c_X6_buy {G : gG} {V : wV} {lo : Nat → Int64} {o : Nat} (ho : hallAt V o) {s : sgT} {h : hT} (hh : hallIs s o h) {B : Nat} (hok : hallOk B h) (hB : B ≤ 19000) (hfl : (gl G).stackTraces = false) {x y : Int32} : CSi G V mX6_buy cX6_buy (rmD 9 9 54) [.ref (ad V o), .int x, .int y] s lo (fun v s' => hPost o s (fBuy h x y) v s') (hExc [xIO, xNS, xIS] h (fBuy h x y)) := by
  refine CSi.of (L := [some (.ref (ad V o)), some (.int x), some (.int y), none, none]) rfl (by decide +kernel) rfl (Nat.le_of_ble_eq_true rfl) rfl ?_
  refine rAload_n dX6_buy_0 rfl ?_
  refine rIload_n dX6_buy_1 rfl ?_
  refine sCallVXq (M' := mX6_playerOf) (rm' := rmD 6 1 6) (As := [.int x]) (rest := []) rfl dX6_buy_2 rfl mk_X6_playerOf mi_X6_playerOf ll_X6_57 ⟨(Nat.le_of_ble_eq_true rfl), (Nat.le_of_ble_eq_true rfl)⟩ ho.1 (by decide) rfl rfl (Nat.le_of_ble_eq_true rfl) (Nat.le_of_ble_eq_true rfl) (c_X6_playerOf ho hfl) rfl (Nat.le_of_ble_eq_true rfl) rfl (by rintro E ⟨rfl, e⟩; refine ⟨?_, 0, ?_, rfl⟩ <;> simp only [fBuy, e]) (fun P qp => ?_)
  obtain ⟨p, hp, rfl, eP⟩ := qp
  have ip : idx 4 (nI p) = some p := idx_nI hp (by decide)
  have aP : plAt V P := eP ▸ ho.2.2.2.2.2.2.2 p hp
  have yP : plIs s P (hY h p) := eP ▸ hh.2.2.1 p hp
  obtain ⟨o1, o2, o3, o4, o5, o6, o7, o8, o9⟩ := hok.2.2.1 p hp
  refine rAstore_n dX6_buy_5 (by decide) ?_
  refine rIload_n dX6_buy_6 rfl ?_
  refine sCallSXu (M' := mX6_requireSlot) (rm' := rmD 6 1 6) (As := [.int y]) (rest := []) rfl dX6_buy_7 rfl mk_X6_requireSlot ms_X6_requireSlot ll_X6_81 ⟨(Nat.le_of_ble_eq_true rfl), (Nat.le_of_ble_eq_true rfl)⟩ rfl (Nat.le_of_ble_eq_true rfl) (Nat.le_of_ble_eq_true rfl) (c_X6_requireSlot hfl) rfl (Nat.le_of_ble_eq_true rfl) rfl (by rintro E ⟨rfl, e⟩; refine ⟨?_, 0, ?_, rfl⟩ <;> simp only [fBuy, ip, e]) (fun qj => ?_)
  obtain ⟨j, hj, rfl⟩ := qj
  have ij : idx 3 (nI j) = some j := idx_nI hj (by decide)
  cases hs : pShp (hY h p) j with
  | none =>
    have hz : s (P + 1) j = -1 := by rw [yP.2.2.2.2.2.1 j hj, hs]; rfl
    refine rAload_n dX6_buy_10 rfl ?_
    refine sGetR dX6_buy_11 fl_X6_85 aP.1 (by decide) rfl ?_
    refine rIload_n dX6_buy_14 rfl ?_
    refine nIald (v := (-1)) dX6_buy_15 aP.2.1 (by omega) (by omega) (by rw [hz]) ?_
    refine rIstore dX6_buy_16 (by decide) ?_
    refine rIload dX6_buy_18 rfl ?_
    refine rIconst (v := (-1)) dX6_buy_20 (by decide) ?_
    refine r_icmp_ne (tgt := 34) dX6_buy_21 (by decide) (fun c_21 => ?_) (fun c_21 => ?_)
    · exact absurd rfl c_21
    · exact sThrowN hfl rfl rfl dX6_buy_24 dX6_buy_27 dX6_buy_28 dX6_buy_30 dX6_buy_33 (Nat.le_of_ble_eq_true rfl) (Nat.le_of_ble_eq_true rfl) (Nat.le_of_ble_eq_true rfl) (Nat.le_of_ble_eq_true rfl) rfl ⟨by simp only [fBuy, ip, ij, hs], 1, by simp only [fBuy, ip, ij, hs], rfl⟩
  | some k =>
    have hk9 := o5 j hj k hs
    have hz : s (P + 1) j = nI k := by rw [yP.2.2.2.2.2.1 j hj, hs]; rfl
    refine rAload_n dX6_buy_10 rfl ?_
    refine sGetR dX6_buy_11 fl_X6_85 aP.1 (by decide) rfl ?_
    refine rIload_n dX6_buy_14 rfl ?_
    refine nIald (v := (nI (k))) dX6_buy_15 aP.2.1 (by omega) (by omega) (by rw [hz]) ?_
    refine rIstore dX6_buy_16 (by decide) ?_
    refine rIload dX6_buy_18 rfl ?_
    refine rIconst (v := (-1)) dX6_buy_20 (by decide) ?_
    refine r_icmp_ne (tgt := 34) dX6_buy_21 (by decide) (fun c_21 => ?_) (fun c_21 => ?_)
    · have hcs : cst k ≤ 3 := by unfold cst; omega
      refine rAload_n dX6_buy_34 rfl ?_
      refine sGetI (x := (nI (pGold (hY h p)))) dX6_buy_35 fl_X6_61 aP.1 (by decide) rfl (by rw [yP.1]) ?_
      refine rIload dX6_buy_38 rfl ?_
      refine sCallSp (M' := mX6_costOf) (rm' := rmD 1 0 0) (As := [.int (nI k)]) (rest := [.int (nI (pGold (hY h p)))]) dX6_buy_40 rfl mk_X6_costOf ms_X6_costOf ll_X6_94 ⟨(Nat.le_of_ble_eq_true rfl), (Nat.le_of_ble_eq_true rfl)⟩ rfl (Nat.le_of_ble_eq_true rfl) (Nat.le_of_ble_eq_true rfl) (c_X6_costOf (by omega)) rfl (Nat.le_of_ble_eq_true rfl) (fun v e => ?_)
      refine tTop (w := (nI (cst k))) e ?_
      refine r_icmp_ge (tgt := 56) dX6_buy_43 (by decide) (fun c_43 => ?_) (fun c_43 => ?_)
      · have c_43 : (cst k) ≤ (pGold (hY h p)) := (nI_leI (by omega) (by omega)).mp c_43
        by_cases hf : (pBen (hY h p)).length = 6
        · refine rAload_n dX6_buy_56 rfl ?_
          refine sGetR dX6_buy_57 fl_X6_98 aP.1 (by decide) rfl ?_
          refine rIload dX6_buy_60 rfl ?_
          refine rIconst (v := (nI (1))) dX6_buy_62 (by decide) ?_
          refine sCallVp (M' := mX5_append) (rm' := rmD 1 0 0) (As := [.int (nI k), .int (nI 1)]) (rest := []) dX6_buy_63 rfl mk_X5_append mi_X5_append ll_X6_102 ⟨(Nat.le_of_ble_eq_true rfl), (Nat.le_of_ble_eq_true rfl)⟩ aP.2.2.1.1 (by decide) rfl rfl (Nat.le_of_ble_eq_true rfl) (Nat.le_of_ble_eq_true rfl) (c_X5_append0 aP.2.2.1 (by omega) (by omega) yP.2.2.2.2.2.2.1 o6 hf) rfl (Nat.le_of_ble_eq_true rfl) (fun v e => ?_)
          subst e
          refine r_if_ne (tgt := 79) dX6_buy_66 (by decide) (fun c_66 => ?_) (fun c_66 => ?_)
          · have c_66 : ¬ (0 = 0) := fun h => c_66 ((nz_eq (by omega)).mpr h)
            exact absurd rfl c_66
          · have c_66 : 0 = 0 := (nz_eq (by omega)).mp c_66
            exact sThrow hfl rfl xl_X6_107 dX6_buy_69 dX6_buy_72 dX6_buy_73 dX6_buy_75 dX6_buy_78 (Nat.le_of_ble_eq_true rfl) (Nat.le_of_ble_eq_true rfl) (Nat.le_of_ble_eq_true rfl) (Nat.le_of_ble_eq_true rfl) rfl ⟨by simp only [fBuy, ip, ij, hs, if_neg (show ¬ pGold (hY h p) < cst k by omega), if_pos hf], 2, by simp only [fBuy, ip, ij, hs, if_neg (show ¬ pGold (hY h p) < cst k by omega), if_pos hf], rfl⟩
        · have hF : fBuy h (nI p) (nI j) = (0, nI (pGold (hY h p) - cst k), setY h p (wG (wS1 (wB (hY h p) (merI 11 (pBrd (hY h p), pBen (hY h p) ++ [10 * k + 1]))) (fun i => if i = j then none else pShp (hY h p) i)) (pGold (hY h p) - cst k))) := by simp only [fBuy, ip, ij, hs, if_neg (show ¬ pGold (hY h p) < cst k by omega), if_neg hf]
          rw [hF]
          refine rAload_n dX6_buy_56 rfl ?_
          refine sGetR dX6_buy_57 fl_X6_98 aP.1 (by decide) rfl ?_
          refine rIload dX6_buy_60 rfl ?_
          refine rIconst (v := (nI (1))) dX6_buy_62 (by decide) ?_
          refine sCallVi (M' := mX5_append) (rm' := rmD 1 0 0) (As := [.int (nI k), .int (nI 1)]) (rest := []) dX6_buy_63 rfl mk_X5_append mi_X5_append ll_X6_102 ⟨(Nat.le_of_ble_eq_true rfl), (Nat.le_of_ble_eq_true rfl)⟩ aP.2.2.1.1 (by decide) rfl rfl (Nat.le_of_ble_eq_true rfl) (Nat.le_of_ble_eq_true rfl) (c_X5_append aP.2.2.1 (by omega) (by omega) yP.2.2.2.2.2.2.1 o6 (by omega) (u := 10 * k + 1) (by omega) (by omega)) rfl (Nat.le_of_ble_eq_true rfl) (fun v s1 e1 => ?_)
          obtain ⟨e1, e2, rfl⟩ := e1
          refine r_if_ne (tgt := 79) dX6_buy_66 (by decide) (fun c_66 => ?_) (fun c_66 => ?_)
          · have c_66 : ¬ (1 = 0) := fun h => c_66 ((nz_eq (by omega)).mpr h)
            refine rAload_n dX6_buy_79 rfl ?_
            refine sGetR dX6_buy_80 fl_X6_85 aP.1 (by decide) rfl ?_
            refine rIload_n dX6_buy_83 rfl ?_
            refine rIconst (v := (-1)) dX6_buy_84 (by decide) ?_
            refine nIast dX6_buy_85 aP.2.1 (by omega) (by omega) ?_
            refine rAload_n dX6_buy_86 rfl ?_
            refine rDup dX6_buy_87 rfl ?_
            refine sGetI (x := (nI (pGold (hY h p)))) dX6_buy_88 fl_X6_61 aP.1 (by decide) rfl (by rw [sw_a (by omega), e2 _ (by omega) (by omega) (by omega), yP.1]) ?_
            refine rIload dX6_buy_91 rfl ?_
            refine sCallSp (M' := mX6_costOf) (rm' := rmD 1 0 0) (As := [.int (nI k)]) (rest := [.int (nI (pGold (hY h p))), .ref (ad V P)]) dX6_buy_93 rfl mk_X6_costOf ms_X6_costOf ll_X6_94 ⟨(Nat.le_of_ble_eq_true rfl), (Nat.le_of_ble_eq_true rfl)⟩ rfl (Nat.le_of_ble_eq_true rfl) (Nat.le_of_ble_eq_true rfl) (c_X6_costOf (by omega)) rfl (Nat.le_of_ble_eq_true rfl) (fun v e => ?_)
            refine tTop (w := (nI (cst k))) e ?_
            refine nIsub dX6_buy_96 (by omega) ?_
            refine sPutI dX6_buy_97 fl_X6_61 ft_X2 rfl aP.1 (by decide) rfl rfl rfl ?_
            refine rAload_n dX6_buy_100 rfl ?_
            have r1 : rowIs (sw (sw s1 (P + 1) j (-1)) P 0 (nI ((pGold (hY h p)) - (cst k)))) (P + 5) (pBrd (hY h p)) := rowIs_keep yP.2.2.2.2.2.2.2 (by simp (disch := omega) only [sw_a, sw_s, sw_i]; exact e2 _ (by omega) (by omega) (by omega)) (by simp (disch := omega) only [sw_a, sw_s, sw_i]; exact e2 _ (by omega) (by omega) (by omega)) (by simp (disch := omega) only [sw_a, sw_s, sw_i]; exact e2 _ (by omega) (by omega) (by omega))
            have r2 : rowIs (sw (sw s1 (P + 1) j (-1)) P 0 (nI ((pGold (hY h p)) - (cst k)))) (P + 2) (pBen (hY h p) ++ [10 * k + 1]) := rowIs_keep e1 (by simp (disch := omega) only [sw_a, sw_s, sw_i]) (by simp (disch := omega) only [sw_a, sw_s, sw_i]) (by simp (disch := omega) only [sw_a, sw_s, sw_i])
            have bo : bbOk (pBrd (hY h p), pBen (hY h p) ++ [10 * k + 1]) := ⟨o7, okR_app o6 ⟨by omega, by omega, by omega⟩, by show (pBrd (hY h p)).length ≤ 5; omega, by rw [List.length_append]; simp only [List.length_singleton]; omega⟩
            refine sCallVv (M' := mX2_mergeThrees) (rm' := rmD 5 0 0) (As := []) (rest := []) dX6_buy_101 rfl mk_X2_mergeThrees mi_X2_mergeThrees ll_X6_109 ⟨(Nat.le_of_ble_eq_true rfl), (Nat.le_of_ble_eq_true rfl)⟩ aP.1 (by decide) rfl rfl (Nat.le_of_ble_eq_true rfl) (Nat.le_of_ble_eq_true rfl) (c_X2_mergeThrees aP (b := (pBrd (hY h p), pBen (hY h p) ++ [10 * k + 1])) ⟨r1, r2⟩ bo) rfl (Nat.le_of_ble_eq_true rfl) (fun s3 g1 => ?_)
            obtain ⟨g1, g2⟩ := g1
            have p3 : plIs s3 P (wG (wS1 (wB (hY h p) (merI 11 (pBrd (hY h p), pBen (hY h p) ++ [10 * k + 1]))) (fun i => if i = j then none else pShp (hY h p) i)) (pGold (hY h p) - cst k)) := ⟨by rw [g2 _ (by omega)]; exact sw_s, by rw [g2 _ (by omega)]; simp (disch := omega) only [sw_a, sw_s, sw_i]; rw [e2 _ (by omega) (by omega) (by omega)]; exact yP.2.1, by rw [g2 _ (by omega)]; simp (disch := omega) only [sw_a, sw_s, sw_i]; rw [e2 _ (by omega) (by omega) (by omega)]; exact yP.2.2.1, by rw [g2 _ (by omega)]; simp (disch := omega) only [sw_a, sw_s, sw_i]; rw [e2 _ (by omega) (by omega) (by omega)]; exact yP.2.2.2.1, by rw [g2 _ (by omega)]; simp (disch := omega) only [sw_a, sw_s, sw_i]; rw [e2 _ (by omega) (by omega) (by omega)]; exact yP.2.2.2.2.1, fun i hi => (by
                  rw [g2 _ (by omega)]
                  show _ = shI (if i = j then none else pShp (hY h p) i)
                  by_cases e : i = j
                  · subst e
                    rw [if_pos rfl, sw_a (by omega), sw_s]
                    rfl
                  · rw [if_neg e, sw_a (by omega), sw_i e, e2 _ (by omega) (by omega) (by omega)]
                    exact yP.2.2.2.2.2.1 i hi), g1.2, g1.1⟩
            have z3 : s3 P 0 = nI (pGold (hY h p) - cst k) := p3.1
            refine rAload_n dX6_buy_104 rfl ?_
            refine sGetI (x := (nI (pGold (hY h p) - cst k))) dX6_buy_105 fl_X6_61 aP.1 (by decide) rfl (by rw [z3]) ?_
            exact sIret dX6_buy_108 rfl rfl (Nat.le_of_ble_eq_true rfl) (Nat.le_of_ble_eq_true rfl) ⟨_, rfl, ⟨rfl, rfl, hallIs_P hh hp (eP ▸ p3) (fun b hb => by rw [g2 b (by omega)]; simp (disch := omega) only [sw_a, sw_s, sw_i]; exact e2 b (by omega) (by omega) (by omega)), (fun b hb => by rw [g2 b (by omega)]; simp (disch := omega) only [sw_a, sw_s, sw_i]; exact e2 b (by omega) (by omega) (by omega))⟩⟩
          · have c_66 : 1 = 0 := (nz_eq (by omega)).mp c_66
            exact absurd c_66 (by omega)
      · have c_43 : ¬ ((cst k) ≤ (pGold (hY h p))) := fun h => c_43 ((nI_leI (by omega) (by omega)).mpr h)
        exact sThrow hfl rfl xl_X6_74 dX6_buy_46 dX6_buy_49 dX6_buy_50 dX6_buy_52 dX6_buy_55 (Nat.le_of_ble_eq_true rfl) (Nat.le_of_ble_eq_true rfl) (Nat.le_of_ble_eq_true rfl) (Nat.le_of_ble_eq_true rfl) rfl ⟨by simp only [fBuy, ip, ij, hs, if_pos (show pGold (hY h p) < cst k by omega)], 2, by simp only [fBuy, ip, ij, hs, if_pos (show pGold (hY h p) < cst k by omega)], rfl⟩
    · exact absurd c_21 (nI_m1 (by omega))
