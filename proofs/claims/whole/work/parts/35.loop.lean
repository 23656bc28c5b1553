/-! the loop of the law (by program) -/
set_option maxRecDepth 100000 in
set_option maxHeartbeats 4000000 in
theorem law_loop {G : gG} {V : wV} {nm : String} {eh : List (Nat × Nat × Nat × Nat)} (hL : gsL G ≤ 1536) (ho : hallAt V 0) (hm : modAt V 47) (hq : shAt V 63 (11, 1, [])) (hq1 : ∀ k, (V.1 k).1 = 11 → k = 63) (hfl : (gl G).stackTraces = false) {c0 n0 : Nat} (hc0 : c0 ≤ 1000) (hn0 : n0 ≤ 10000) : ∀ (n t : Nat) (s : sgT) (lo : Nat → Int64) (h : hT), gsL G < 3 * t + 3 * n + 3 → 3 * t ≤ 1540 → hallIs s 0 h → modIs s 47 h → hallOk (9 + 12 * t) h → RW G (mLw nm eh) code room_1 (QL G) 23 (LwL G V (3 * t)) [] (wS G V s lo) (c0 + 10 * t) (n0 + 60 * t) := by
  intro n
  induction n with
  | zero =>
    intro t s lo h h1 h2 hh hr hok
    refine rIload dL_law_23 rfl ?_
    refine rAload_n dL_law_25 rfl ?_
    refine rSlen dL_law_26 ?_
    refine rIconst (v := nI 3) dL_law_27 (by decide) ?_
    refine rIsub dL_law_28 ?_
    show RW G _ _ _ _ 29 _ [.int (nI (gsL G) - nI 3), .int (nI (3 * t))] _ _ _
    refine r_icmp_gt (tgt := 1390) dL_law_29 (by decide) (fun c => ?_) (fun c => ?_)
    · refine rIconst (v := 1) dL_law_1390 (by decide) ?_
      exact rLawRet dL_law_1391 (by omega) (by omega)
    · exact absurd (nI_big hL (by omega) c) (by omega)
  | succ n ih =>
    intro t s lo h h1 h2 hh hr hok
    refine rIload dL_law_23 rfl ?_
    refine rAload_n dL_law_25 rfl ?_
    refine rSlen dL_law_26 ?_
    refine rIconst (v := nI 3) dL_law_27 (by decide) ?_
    refine rIsub dL_law_28 ?_
    show RW G _ _ _ _ 29 _ [.int (nI (gsL G) - nI 3), .int (nI (3 * t))] _ _ _
    refine r_icmp_gt (tgt := 1390) dL_law_29 (by decide) (fun c => ?_) (fun c => ?_)
    · refine rIconst (v := 1) dL_law_1390 (by decide) ?_
      exact rLawRet dL_law_1391 (by omega) (by omega)
    have hi : 3 * t + 3 ≤ gsL G := nI_big hL (by omega) c
    have hc : c0 + 10 * t + 10 ≤ 651549 := by omega
    have hs : n0 + 60 * t + 60 ≤ 7141458 := by omega
    have hB : 9 + 12 * t ≤ 19000 := by omega
    have kk : ∀ (s' : sgT) (lo' : Nat → Int64) (h' : hT), hallIs s' 0 h' → modIs s' 47 h' → hallOk (9 + 12 * t + 12) h' → RW G (mLw nm eh) code room_1 (QL G) 1384 (LwL G V (3 * t)) [] (wS G V s' lo') (c0 + 10 * t + 10) (n0 + 60 * t + 60) := by
      intro s1 lo1 h1 g1 g2 g3
      refine rIinc (v := nI (3 * (t + 1))) dL_law_1384 rfl (nI_add (3 * t) 3) (Nat.le_of_ble_eq_true rfl) ?_
      refine rGoto (tgt := 23) dL_law_1387 (by decide) ?_
      exact ih (t + 1) s1 lo1 h1 (by omega) (by omega) g1 g2 (by rw [show 9 + 12 * (t + 1) = 9 + 12 * t + 12 by omega]; exact g3)
    refine rAload_n dL_law_32 rfl ?_
    refine rIload dL_law_33 rfl ?_
    refine rSld dL_law_35 (vp_in_nI (by omega) (by omega)) ?_
    refine rBipush (v := 31) dL_law_36 (by decide) ?_
    refine rIand dL_law_38 ?_
    obtain ⟨j, hj, ej⟩ := pk_andE (gsx G (nI (3 * t)).toNatClampNeg) (m := 31) 5 (by decide)
    rw [ej]
    have e2 : (nI j).toInt = (j : Int) := nI_toInt (by omega)
    by_cases h20 : 20 < j
    · refine rTabOut (tgt := 1384) dL_law_39 (Or.inr (by omega)) (by decide) ?_
      exact RW.widen (by omega) (by omega) (kk s lo h hh hr (hallOk_le hok (by omega)))
    · have hj2 : j < 21 := by omega
      have e3 : ((nI j).toInt - 0).toNat = j := by omega
      rcases j with _ | _ | _ | _ | _ | _ | _ | _ | _ | _ | _ | _ | _ | _ | _ | _ | _ | _ | _ | _ | _ | j
      · refine rTabIn (tgt := 136) dL_law_39 (by omega) (by omega) (by rw [e3]; rfl) (by decide) ?_
        exact k_tell hL ho hm hq hq1 hfl hi hh hr hok hB hc hs kk
      · refine rTabIn (tgt := 192) dL_law_39 (by omega) (by omega) (by rw [e3]; rfl) (by decide) ?_
        exact k_roll hL ho hm hq hq1 hfl hi hh hr hok hB hc hs kk
      · refine rTabIn (tgt := 248) dL_law_39 (by omega) (by omega) (by rw [e3]; rfl) (by decide) ?_
        exact k_toggleLock hL ho hm hq hq1 hfl hi hh hr hok hB hc hs kk
      · refine rTabIn (tgt := 311) dL_law_39 (by omega) (by omega) (by rw [e3]; rfl) (by decide) ?_
        exact k_buyLevel hL ho hm hq hq1 hfl hi hh hr hok hB hc hs kk
      · refine rTabIn (tgt := 367) dL_law_39 (by omega) (by omega) (by rw [e3]; rfl) (by decide) ?_
        exact k_buy hL ho hm hq hq1 hfl hi hh hr hok hB hc hs kk
      · refine rTabIn (tgt := 435) dL_law_39 (by omega) (by omega) (by rw [e3]; rfl) (by decide) ?_
        exact k_sell hL ho hm hq hq1 hfl hi hh hr hok hB hc hs kk
      · refine rTabIn (tgt := 503) dL_law_39 (by omega) (by omega) (by rw [e3]; rfl) (by decide) ?_
        exact k_toBoard hL ho hm hq hq1 hfl hi hh hr hok hB hc hs kk
      · refine rTabIn (tgt := 571) dL_law_39 (by omega) (by omega) (by rw [e3]; rfl) (by decide) ?_
        exact k_toBench hL ho hm hq hq1 hfl hi hh hr hok hB hc hs kk
      · refine rTabIn (tgt := 639) dL_law_39 (by omega) (by omega) (by rw [e3]; rfl) (by decide) ?_
        exact k_round hL ho hm hq hq1 hfl hi hh hr hok hB hc hs kk
      · refine rTabIn (tgt := 683) dL_law_39 (by omega) (by omega) (by rw [e3]; rfl) (by decide) ?_
        exact k_rounds hL ho hm hq hq1 hfl hi hh hr hok hB hc hs kk
      · refine rTabIn (tgt := 696) dL_law_39 (by omega) (by omega) (by rw [e3]; rfl) (by decide) ?_
        exact k_fight hL ho hm hq hq1 hfl hi hh hr hok hB hc hs kk
      · refine rTabIn (tgt := 764) dL_law_39 (by omega) (by omega) (by rw [e3]; rfl) (by decide) ?_
        exact k_fightByRecord hL ho hm hq hq1 hfl hi hh hr hok hB hc hs kk
      · refine rTabIn (tgt := 832) dL_law_39 (by omega) (by omega) (by rw [e3]; rfl) (by decide) ?_
        exact k_gold hL ho hm hq hq1 hfl hi hh hr hok hB hc hs kk
      · refine rTabIn (tgt := 888) dL_law_39 (by omega) (by omega) (by rw [e3]; rfl) (by decide) ?_
        exact k_health hL ho hm hq hq1 hfl hi hh hr hok hB hc hs kk
      · refine rTabIn (tgt := 944) dL_law_39 (by omega) (by omega) (by rw [e3]; rfl) (by decide) ?_
        exact k_streak hL ho hm hq hq1 hfl hi hh hr hok hB hc hs kk
      · refine rTabIn (tgt := 1000) dL_law_39 (by omega) (by omega) (by rw [e3]; rfl) (by decide) ?_
        exact k_shopAt hL ho hm hq hq1 hfl hi hh hr hok hB hc hs kk
      · refine rTabIn (tgt := 1068) dL_law_39 (by omega) (by omega) (by rw [e3]; rfl) (by decide) ?_
        exact k_benchAt hL ho hm hq hq1 hfl hi hh hr hok hB hc hs kk
      · refine rTabIn (tgt := 1136) dL_law_39 (by omega) (by omega) (by rw [e3]; rfl) (by decide) ?_
        exact k_boardAt hL ho hm hq hq1 hfl hi hh hr hok hB hc hs kk
      · refine rTabIn (tgt := 1204) dL_law_39 (by omega) (by omega) (by rw [e3]; rfl) (by decide) ?_
        exact k_blow hL ho hm hq hq1 hfl hi hh hr hok hB hc hs kk
      · refine rTabIn (tgt := 1272) dL_law_39 (by omega) (by omega) (by rw [e3]; rfl) (by decide) ?_
        exact k_pool hL ho hm hq hq1 hfl hi hh hr hok hB hc hs kk
      · refine rTabIn (tgt := 1328) dL_law_39 (by omega) (by omega) (by rw [e3]; rfl) (by decide) ?_
        exact k_out hL ho hm hq hq1 hfl hi hh hr hok hB hc hs kk
      · exact absurd hj2 (by omega)
