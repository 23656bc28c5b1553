/-! what every call keeps -/
theorem idx_lt4 {n i : Nat} {x : Int32} (h : idx n x = some i) : i < n := by
  unfold idx at h
  split at h
  · cases h
  · split at h
    · cases h
      assumption
    · cases h
theorem ok_tell {B : Nat} {h : hT} {x : Int32} (hk : hallOk B h) : hallOk (B + 12) (fTell h x).2.2 := by
  unfold fTell
  split
  · exact hallOk_le hk (by omega)
  · rename_i n e
    have hn := idx_lt4 e
    split
    · exact hallOk_le hk (by omega)
    · refine ⟨fun z hz => ?_, (hallOk_le hk (by omega)).2⟩
      rcases List.mem_append.mp hz with q | q
      · exact hk.1 z q
      · rw [List.mem_singleton.mp q]
        omega
theorem ok_roll {B : Nat} {h : hT} {x : Int32} (hk : hallOk B h) : hallOk (B + 12) (fRoll h x).2.2 := by
  unfold fRoll
  split
  · exact hallOk_le hk (by omega)
  · rename_i p e
    have hp := idx_lt4 e
    split
    · exact hallOk_le hk (by omega)
    · have h1 := hallOk_fill (hallOk_P (p := p) hk (plOk_wG (g := pGold (hY h p) - 1) (hk.2.2.1 p hp) (by have := (hk.2.2.1 p hp).1; omega))) hp
      exact hallOk_le (hallOk_P h1 (plOk_wC (h1.2.2.1 p hp))) (by omega)
theorem ok_toggle {B : Nat} {h : hT} {x : Int32} (hk : hallOk B h) : hallOk (B + 12) (fToggle h x).2.2 := by
  unfold fToggle
  split
  · exact hallOk_le hk (by omega)
  · rename_i p e
    exact hallOk_le (hallOk_P hk (plOk_wC (hk.2.2.1 p (idx_lt4 e)))) (by omega)
theorem ok_level {B : Nat} {h : hT} {x : Int32} (hk : hallOk B h) : hallOk (B + 12) (fLevel h x).2.2 := by
  unfold fLevel
  split
  · exact hallOk_le hk (by omega)
  · rename_i p e
    have hp := idx_lt4 e
    split
    · exact hallOk_le hk (by omega)
    · split
      · exact hallOk_le hk (by omega)
      · obtain ⟨o1, o2, o3, o4, o5, o6, o7, o8, o9⟩ := hk.2.2.1 p hp
        exact hallOk_le (hallOk_P hk ⟨by show pGold (hY h p) - 4 ≤ 100; omega, by show 1 ≤ pLev (hY h p) + 1; omega, by show pLev (hY h p) + 1 ≤ 5; omega, o4, o5, o6, o7, o8, by show (pBrd (hY h p)).length ≤ pLev (hY h p) + 1; omega⟩) (by omega)
theorem ok_buy {B : Nat} {h : hT} {x y : Int32} (hk : hallOk B h) : hallOk (B + 12) (fBuy h x y).2.2 := by
  unfold fBuy
  split
  · exact hallOk_le hk (by omega)
  · rename_i p e
    have hp := idx_lt4 e
    split
    · exact hallOk_le hk (by omega)
    · rename_i j ej
      split
      · exact hallOk_le hk (by omega)
      · rename_i k ek
        split
        · exact hallOk_le hk (by omega)
        · split
          · exact hallOk_le hk (by omega)
          · rename_i hf
            obtain ⟨o1, o2, o3, o4, o5, o6, o7, o8, o9⟩ := hk.2.2.1 p hp
            have hk9 := o5 j (idx_lt4 ej) k ek
            obtain ⟨m1, m2, m3, m4⟩ := merI_ok (n := 11) (b := (pBrd (hY h p), pBen (hY h p) ++ [10 * k + 1])) o7 (okR_app o6 ⟨by omega, by omega, by omega⟩)
            have hl : (pBen (hY h p) ++ [10 * k + 1]).length = (pBen (hY h p)).length + 1 := by rw [List.length_append]; rfl
            exact hallOk_le (hallOk_P hk ⟨by show pGold (hY h p) - cst k ≤ 100; omega, o2, o3, o4, fun i hi q hq => (by
              have hq : (if i = j then none else pShp (hY h p) i) = some q := hq
              split at hq
              · cases hq
              · exact o5 i hi q hq), m2, m1, by show (merI 11 _).2.length ≤ 6; exact Nat.le_trans m4 (by show (pBen (hY h p) ++ [10 * k + 1]).length ≤ 6; omega), Nat.le_trans m3 o9⟩) (by omega)
theorem wor_le {t : Nat} : wor t ≤ 9 := by
  unfold wor
  split
  · omega
  · split <;> omega
theorem ok_sell {B : Nat} {h : hT} {x y : Int32} (hk : hallOk B h) : hallOk (B + 12) (fSell h x y).2.2 := by
  unfold fSell
  split
  · exact hallOk_le hk (by omega)
  · rename_i p e
    have hp := idx_lt4 e
    split
    · exact hallOk_le hk (by omega)
    · rename_i i ei
      have hi := idx_lt4 ei
      obtain ⟨o1, o2, o3, o4, o5, o6, o7, o8, o9⟩ := hk.2.2.1 p hp
      have hl := era_len hi
      have hw := wor_le (t := (pBen (hY h p)).getD i 0 % 10)
      exact ⟨hk.1, poolOk_le (poolOk_inc hk.2.1) (by omega), (hallOk_P hk (plOk_wG (plOk_wB (x := hY h p) (b := (pBrd (hY h p), (pBen (hY h p)).eraseIdx i)) (hk.2.2.1 p hp) o7 (okR_era o6) o9 (by show ((pBen (hY h p)).eraseIdx i).length ≤ 6; omega)) (Nat.min_le_left _ _))).2.2⟩
theorem ok_board {B : Nat} {h : hT} {x y : Int32} (hk : hallOk B h) : hallOk (B + 12) (fBoard h x y).2.2 := by
  unfold fBoard
  split
  · exact hallOk_le hk (by omega)
  · rename_i p e
    have hp := idx_lt4 e
    split
    · exact hallOk_le hk (by omega)
    · rename_i i ei
      have hi := idx_lt4 ei
      split
      · exact hallOk_le hk (by omega)
      · obtain ⟨o1, o2, o3, o4, o5, o6, o7, o8, o9⟩ := hk.2.2.1 p hp
        have hl := era_len hi
        have hl2 : (pBrd (hY h p) ++ [(pBen (hY h p)).getD i 0]).length = (pBrd (hY h p)).length + 1 := by rw [List.length_append]; rfl
        exact hallOk_le (hallOk_P hk (plOk_wB (x := hY h p) (b := (pBrd (hY h p) ++ [(pBen (hY h p)).getD i 0], (pBen (hY h p)).eraseIdx i)) (hk.2.2.1 p hp) (okR_app o7 (o6 i hi)) (okR_era o6) (by show (pBrd (hY h p) ++ [(pBen (hY h p)).getD i 0]).length ≤ _; omega) (by show ((pBen (hY h p)).eraseIdx i).length ≤ 6; omega))) (by omega)
theorem ok_bench {B : Nat} {h : hT} {x y : Int32} (hk : hallOk B h) : hallOk (B + 12) (fBench h x y).2.2 := by
  unfold fBench
  split
  · exact hallOk_le hk (by omega)
  · rename_i p e
    have hp := idx_lt4 e
    split
    · exact hallOk_le hk (by omega)
    · rename_i i ei
      have hi := idx_lt4 ei
      split
      · exact hallOk_le hk (by omega)
      · obtain ⟨o1, o2, o3, o4, o5, o6, o7, o8, o9⟩ := hk.2.2.1 p hp
        have hl := era_len hi
        obtain ⟨m1, m2, m3, m4⟩ := merI_ok (n := 11) (b := ((pBrd (hY h p)).eraseIdx i, pBen (hY h p) ++ [(pBrd (hY h p)).getD i 0])) (okR_era o7) (okR_app o6 (o7 i hi))
        have hl2 : (pBen (hY h p) ++ [(pBrd (hY h p)).getD i 0]).length = (pBen (hY h p)).length + 1 := by rw [List.length_append]; rfl
        exact hallOk_le (hallOk_P hk (plOk_wB (hk.2.2.1 p hp) m1 m2 (Nat.le_trans m3 (by show ((pBrd (hY h p)).eraseIdx i).length ≤ _; omega)) (Nat.le_trans m4 (by show (pBen (hY h p) ++ [(pBrd (hY h p)).getD i 0]).length ≤ 6; omega)))) (by omega)
theorem ok_round {B : Nat} {h : hT} (hk : hallOk B h) : hallOk (B + 12) (fRound h).2.2 := by
  unfold fRound
  split
  · exact hallOk_le hk (by omega)
  · rename_i hr
    have h1 : hallOk B (rdH h) := by
      unfold rdH prs
      split
      · exact hallOk_pair (hallOk_pair hk (by decide) (by decide)) (by decide) (by decide)
      · split
        · exact hallOk_pair (hallOk_pair hk (by decide) (by decide)) (by decide) (by decide)
        · exact hallOk_pair (hallOk_pair hk (by decide) (by decide)) (by decide) (by decide)
    have h2 := hallOk_fu (hallOk_ea h1 4 (by omega)) 4 (by omega)
    exact hallRr h2 (by rw [hallR_fu, hallR_ea, hallR_rd]; omega)
theorem ok_same {B : Nat} {h : hT} {r : rT} (hk : hallOk B h) (e : r.2.2 = h) : hallOk (B + 12) r.2.2 := by
  rw [e]
  exact hallOk_le hk (by omega)
theorem sm_fight {h : hT} {x y : Int32} : (fFight h x y).2.2 = h := by
  unfold fFight
  split
  · rfl
  · split
    · rfl
    · split <;> rfl
theorem sm_ask {f : plT → Int32} {h : hT} {x : Int32} : (fAsk f h x).2.2 = h := by
  unfold fAsk
  split <;> rfl
theorem sm_ask2 {n : plT → Nat} {f : plT → Nat → Int32} {h : hT} {x y : Int32} : (fAsk2 n f h x y).2.2 = h := by
  unfold fAsk2
  split
  · rfl
  · split <;> rfl
theorem sm_pool {h : hT} {x : Int32} : (fPool h x).2.2 = h := by
  unfold fPool
  split <;> rfl
theorem sm_out {h : hT} {x : Int32} : (fOut h x).2.2 = h := by
  unfold fOut
  split <;> rfl
