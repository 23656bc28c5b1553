/-! blows, fights, moves, sales: what the law asks of them -/
theorem str_eq {l : List Nat} {u : Nat} : strN l u = 2 * (u / 30 + 1) * (u % 10) + kinN l (u / 10) := by
  have e : u / 10 / 3 = u / 30 := by omega
  unfold strN cst
  rw [e]
theorem kin_all {l : List Nat} {u k : Nat} (hu : u ∈ l) (hk : u / 10 = k) (h9 : k < 9) : kinN l k ≤ 2 ∧ kinN l k < l.length := by
  have hB : ∀ c, (c ≠ k ∧ hKb l c = true) → ∃ i, i < l.length ∧ l.getD i 0 / 10 = c := by
    intro c h
    obtain ⟨v, h1, h2⟩ := hKb_iff.mp h.2
    obtain ⟨i, h3, h4⟩ := mem_getD h1
    exact ⟨i, h3, by rw [h4]; exact h2⟩
  obtain ⟨i0, hi0, e0⟩ := mem_getD hu
  have d0 : l.getD i0 0 / 10 = k := by rw [e0]; exact hk
  have hc : k = k % 3 ∨ k = k % 3 + 3 ∨ k = k % 3 + 6 := by omega
  have ne : ∀ {i j a b : Nat}, l.getD i 0 / 10 = a → l.getD j 0 / 10 = b → a ≠ b → i ≠ j := by
    intro i j a b h1 h2 h3 h4
    subst h4
    exact h3 (h1.symm.trans h2)
  unfold kinN
  by_cases c0 : k % 3 ≠ k ∧ hKb l (k % 3) = true
  · by_cases c1 : k % 3 + 3 ≠ k ∧ hKb l (k % 3 + 3) = true
    · by_cases c2 : k % 3 + 6 ≠ k ∧ hKb l (k % 3 + 6) = true
      · exact absurd hc (by have h0 := c0.1; have h1 := c1.1; have h2 := c2.1; omega)
      · rw [if_pos c0, if_pos c1, if_neg c2]
        obtain ⟨i1, q1, r1⟩ := hB _ c0
        have n1 := ne d0 r1 (Ne.symm c0.1)
        obtain ⟨i2, q2, r2⟩ := hB _ c1
        have n2 := ne d0 r2 (Ne.symm c1.1)
        have n9 := ne r1 r2 (by omega)
        exact ⟨by omega, by omega⟩
    · by_cases c2 : k % 3 + 6 ≠ k ∧ hKb l (k % 3 + 6) = true
      · rw [if_pos c0, if_neg c1, if_pos c2]
        obtain ⟨i1, q1, r1⟩ := hB _ c0
        have n1 := ne d0 r1 (Ne.symm c0.1)
        obtain ⟨i3, q3, r3⟩ := hB _ c2
        have n3 := ne d0 r3 (Ne.symm c2.1)
        have n9 := ne r1 r3 (by omega)
        exact ⟨by omega, by omega⟩
      · rw [if_pos c0, if_neg c1, if_neg c2]
        obtain ⟨i1, q1, r1⟩ := hB _ c0
        have n1 := ne d0 r1 (Ne.symm c0.1)
        exact ⟨by omega, by omega⟩
  · by_cases c1 : k % 3 + 3 ≠ k ∧ hKb l (k % 3 + 3) = true
    · by_cases c2 : k % 3 + 6 ≠ k ∧ hKb l (k % 3 + 6) = true
      · rw [if_neg c0, if_pos c1, if_pos c2]
        obtain ⟨i2, q2, r2⟩ := hB _ c1
        have n2 := ne d0 r2 (Ne.symm c1.1)
        obtain ⟨i3, q3, r3⟩ := hB _ c2
        have n3 := ne d0 r3 (Ne.symm c2.1)
        have n9 := ne r2 r3 (by omega)
        exact ⟨by omega, by omega⟩
      · rw [if_neg c0, if_pos c1, if_neg c2]
        obtain ⟨i2, q2, r2⟩ := hB _ c1
        have n2 := ne d0 r2 (Ne.symm c1.1)
        exact ⟨by omega, by omega⟩
    · by_cases c2 : k % 3 + 6 ≠ k ∧ hKb l (k % 3 + 6) = true
      · rw [if_neg c0, if_neg c1, if_pos c2]
        obtain ⟨i3, q3, r3⟩ := hB _ c2
        have n3 := ne d0 r3 (Ne.symm c2.1)
        exact ⟨by omega, by omega⟩
      · rw [if_neg c0, if_neg c1, if_neg c2]
        exact ⟨by omega, by omega⟩
/-! fights -/
theorem hth_ok {u : Nat} (h : okU u) : 0 < hthN u ∧ hthN u < 100 := by
  unfold okU at h
  unfold hthN cst
  have hc : u % 10 = 1 ∨ u % 10 = 2 ∨ u % 10 = 3 := by omega
  rcases hc with e | e | e <;> rw [e] <;> omega
theorem liv_all {l : List Nat} (h : okR l) : ∀ n, n ≤ l.length → livN (fun i => nI (hthN (l.getD i 0))) n = n
  | 0, _ => rfl
  | n + 1, hn => by
    have h1 := hth_ok (h n (by omega))
    simp only [livN]
    rw [liv_all h n (by omega), if_neg (fun q => by have := (nz_le (by omega)).mp q; omega)]
theorem end_0 {l : List Nat} : endF [] l = z0F [] l := by
  have e : blowS ([] : List Nat).length l.length (gF []) (gF l) 0 (z0F [] l) = none := rfl
  unfold endF
  rw [show (60 : Nat) = 59 + 1 from rfl]
  simp only [fightN, e]
theorem end_1 {l : List Nat} : endF l [] = z0F l [] := by
  have e : blowS l.length ([] : List Nat).length (gF l) (gF []) 0 (z0F l []) = none := by
    unfold blowS
    rw [if_pos (by decide)]
    split
    · rename_i a b h1 h2
      exact absurd h2 (by simp [flN])
    · rfl
  unfold endF
  rw [show (60 : Nat) = 59 + 1 from rfl]
  simp only [fightN, e]
theorem liv_0 {l0 l1 : List Nat} (h : okR l1) (e : l0.length = 0) : livA l0 l1 = 0 ∧ livB l0 l1 = l1.length := by
  have e0 : l0 = [] := List.eq_nil_of_length_eq_zero e
  subst e0
  unfold livA livB
  rw [end_0]
  exact ⟨rfl, liv_all h _ (Nat.le_refl _)⟩
theorem liv_1 {l0 l1 : List Nat} (h : okR l0) (e : l1.length = 0) : livA l0 l1 = l0.length ∧ livB l0 l1 = 0 := by
  have e0 : l1 = [] := List.eq_nil_of_length_eq_zero e
  subst e0
  unfold livA livB
  rw [end_1]
  exact ⟨liv_all h _ (Nat.le_refl _), rfl⟩
theorem d_le : ∀ a, a < 6 → ∀ b, b < 6 → ∀ n, n < 6 → a ≤ n → ¬ nI n < nI a - nI b := by decide +kernel
theorem d_neg : ∀ a, a < 6 → ∀ b, b < 6 → -(nI a - nI b) = nI b - nI a := by decide +kernel
theorem d_0 : ∀ b, b < 6 → nI 0 - nI b = -(nI b) := by decide +kernel
theorem d_1 : ∀ a, a < 6 → nI a - nI 0 = nI a := by decide +kernel
/-! a unit goes to the board and comes back -/
theorem doN {h : hT} {w : Nat} {a b : Int32} (e : ¬ (fDo h w a b).1 = 0) : aI (fDo h w a b) = -99999 ∧ (fDo h w a b).2.2 = h := ⟨if_neg e, do_same e⟩
theorem doY {h h2 : hT} {w : Nat} {a b x : Int32} (e : fDo h w a b = (0, x, h2)) : aI (fDo h w a b) = x ∧ (fDo h w a b).2.2 = h2 := by
  rw [e]
  exact ⟨rfl, rfl⟩
def moB (h : hT) (p j : Nat) : hT := setY h p (wB (hY h p) (pBrd (hY h p) ++ [(pBen (hY h p)).getD j 0], (pBen (hY h p)).eraseIdx j))
theorem setY_p9 {h : hT} {p : Nat} {x : plT} : hY (setY h p x) p = x := if_pos rfl
theorem bd_yes {h : hT} {p j : Nat} (hg : good h) (hp : p < 4) (hj : j < 4) (e : (fDo h 6 (nI p) (nI j)).1 = 0) : j < (pBen (hY h p)).length ∧ (pBrd (hY h p)).length < 5 ∧ fDo h 6 (nI p) (nI j) = (0, nI ((pBrd (hY h p)).length + 1), moB h p j) := by
  have e0 : fDo h 6 (nI p) (nI j) = fBoard h (nI p) (nI j) := rfl
  obtain ⟨l1, l2, l3⟩ := plOk_len hg.1 hp
  have l4 := (hg.1.2.2.1 p hp).2.2.1
  rw [e0] at e ⊢
  by_cases c : j < (pBen (hY h p)).length
  · have e1 : fBoard h (nI p) (nI j) = if pLev (hY h p) ≤ (pBrd (hY h p)).length then (2, 0, h) else (0, nI ((pBrd (hY h p)).length + 1), moB h p j) := by
      simp only [fBoard, idx_nI hp (by decide), idx_nI c (by omega)]
      rfl
    rw [e1] at e ⊢
    by_cases c2 : pLev (hY h p) ≤ (pBrd (hY h p)).length
    · rw [if_pos c2] at e
      exact absurd e (Nat.succ_ne_zero _)
    · rw [if_neg c2]
      exact ⟨c, by omega, rfl⟩
  · have e1 : fBoard h (nI p) (nI j) = (1, 0, h) := by
      simp only [fBoard, idx_nI hp (by decide), idx_no (Nat.le_of_not_lt c) (show j < 2 ^ 31 by omega)]
    rw [e1] at e
    exact absurd e (Nat.succ_ne_zero _)
theorem era_last {l : List Nat} {u : Nat} : (l ++ [u]).eraseIdx l.length = l := by
  rw [List.eraseIdx_append_of_length_le (Nat.le_refl _), Nat.sub_self]
  simp
def baB (h : hT) (p j : Nat) : hT := setY (moB h p j) p (wB (hY (moB h p j) p) (pBrd (hY h p), (pBen (hY h p)).eraseIdx j ++ [(pBen (hY h p)).getD j 0]))
theorem bk_yes {h : hT} {p j : Nat} (hg : good h) (hp : p < 4) (hj : j < (pBen (hY h p)).length) : fDo (moB h p j) 7 (nI p) (nI (pBrd (hY h p)).length) = (0, nI (pBen (hY h p)).length, baB h p j) := by
  have e0 : ∀ x y, fDo (moB h p j) 7 x y = fBench (moB h p j) x y := fun _ _ => rfl
  obtain ⟨l1, l2, l3⟩ := plOk_len hg.1 hp
  have le := era_len hj
  have eY : hY (moB h p j) p = wB (hY h p) (pBrd (hY h p) ++ [(pBen (hY h p)).getD j 0], (pBen (hY h p)).eraseIdx j) := setY_p9
  have eD : pBrd (hY (moB h p j) p) = pBrd (hY h p) ++ [(pBen (hY h p)).getD j 0] := by rw [eY]; rfl
  have eN : pBen (hY (moB h p j) p) = (pBen (hY h p)).eraseIdx j := by rw [eY]; rfl
  have e2 : idx (pBrd (hY (moB h p j) p)).length (nI (pBrd (hY h p)).length) = some (pBrd (hY h p)).length := by
    rw [eD]
    refine idx_nI ?_ ?_
    · rw [List.length_append]
      exact Nat.lt_succ_self _
    · rw [List.length_append]
      show (pBrd (hY h p)).length + 1 < 2 ^ 31
      omega
  have e3 : merI 11 (pBrd (hY h p), (pBen (hY h p)).eraseIdx j ++ [(pBen (hY h p)).getD j 0]) = (pBrd (hY h p), (pBen (hY h p)).eraseIdx j ++ [(pBen (hY h p)).getD j 0]) := by
    refine merI_none (fst_le (hg.2.2 p hp) (fun u => ?_)) 11
    have h1 := cnt_eraI (u := u) hj
    have h2 := cnt_app (l := (pBen (hY h p)).eraseIdx j) (u := u) (v := (pBen (hY h p)).getD j 0)
    show (pBrd (hY h p)).count u + ((pBen (hY h p)).eraseIdx j ++ [(pBen (hY h p)).getD j 0]).count u ≤ (pBrd (hY h p)).count u + (pBen (hY h p)).count u
    omega
  rw [e0]
  simp only [fBench, idx_nI hp (by decide), e2]
  rw [eD, eN, if_neg (by omega), era_last, app_last, e3]
  show ((0, nI ((pBen (hY h p)).eraseIdx j ++ [(pBen (hY h p)).getD j 0]).length, baB h p j) : rT) = _
  rw [List.length_append, show ((pBen (hY h p)).eraseIdx j).length + [(pBen (hY h p)).getD j 0].length = (pBen (hY h p)).length from le]
theorem mo_at {h : hT} {p j : Nat} : pBrd (hY (moB h p j) p) = pBrd (hY h p) ++ [(pBen (hY h p)).getD j 0] ∧ pBen (hY (moB h p j) p) = (pBen (hY h p)).eraseIdx j := by
  have eY : hY (moB h p j) p = wB (hY h p) (pBrd (hY h p) ++ [(pBen (hY h p)).getD j 0], (pBen (hY h p)).eraseIdx j) := setY_p9
  rw [eY]
  exact ⟨rfl, rfl⟩
theorem ba_at {h : hT} {p j : Nat} : pBrd (hY (baB h p j) p) = pBrd (hY h p) ∧ pBen (hY (baB h p j) p) = (pBen (hY h p)).eraseIdx j ++ [(pBen (hY h p)).getD j 0] := by
  have eY : hY (baB h p j) p = wB (hY (moB h p j) p) (pBrd (hY h p), (pBen (hY h p)).eraseIdx j ++ [(pBen (hY h p)).getD j 0]) := setY_p9
  rw [eY]
  exact ⟨rfl, rfl⟩
/-! a unit is bought, and sold again -/
def buB (h : hT) (p k : Nat) : bbT := merI 11 (pBrd (hY h p), pBen (hY h p) ++ [10 * k + 1])
def buH (h : hT) (p j k : Nat) : hT := setY h p (wG (wS1 (wB (hY h p) (buB h p k)) (fun i => if i = j then none else pShp (hY h p) i)) (pGold (hY h p) - cst k))
theorem bu_eq {h : hT} {p j : Nat} (hp : p < 4) (hj : j < 3) : fDo h 4 (nI p) (nI j) = match pShp (hY h p) j with
    | none => (2, 0, h)
    | some k => if pGold (hY h p) < cst k then (3, 0, h) else if (pBen (hY h p)).length = 6 then (3, 0, h) else (0, nI (pGold (hY h p) - cst k), buH h p j k) := by
  have e0 : ∀ x y, fDo h 4 x y = fBuy h x y := fun _ _ => rfl
  rw [e0]
  simp only [fBuy, idx_nI hp (by decide), idx_nI hj (by decide)]
  rfl
theorem bu_none {h : hT} {p j : Nat} (hp : p < 4) (hj : j < 3) (e : pShp (hY h p) j = none) : ¬ (fDo h 4 (nI p) (nI j)).1 = 0 := by
  rw [bu_eq hp hj, e]
  exact Nat.succ_ne_zero _
theorem bu_no {h : hT} {p j k : Nat} (hp : p < 4) (hj : j < 3) (e : pShp (hY h p) j = some k) (c : pGold (hY h p) < cst k ∨ (pBen (hY h p)).length = 6) : ¬ (fDo h 4 (nI p) (nI j)).1 = 0 := by
  rw [bu_eq hp hj, e]
  show ¬ (if pGold (hY h p) < cst k then (3, 0, h) else if (pBen (hY h p)).length = 6 then (3, 0, h) else (0, nI (pGold (hY h p) - cst k), buH h p j k) : rT).1 = 0
  by_cases c1 : pGold (hY h p) < cst k
  · rw [if_pos c1]
    exact Nat.succ_ne_zero _
  · rw [if_neg c1, if_pos (c.resolve_left c1)]
    exact Nat.succ_ne_zero _
theorem bu_yes {h : hT} {p j k : Nat} (hp : p < 4) (hj : j < 3) (e : pShp (hY h p) j = some k) (c1 : ¬ pGold (hY h p) < cst k) (c2 : ¬ (pBen (hY h p)).length = 6) : fDo h 4 (nI p) (nI j) = (0, nI (pGold (hY h p) - cst k), buH h p j k) := by
  rw [bu_eq hp hj, e]
  show (if pGold (hY h p) < cst k then (3, 0, h) else if (pBen (hY h p)).length = 6 then (3, 0, h) else (0, nI (pGold (hY h p) - cst k), buH h p j k) : rT) = _
  rw [if_neg c1, if_neg c2]
theorem buH_at {h : hT} {p j k : Nat} : pGold (hY (buH h p j k) p) = pGold (hY h p) - cst k ∧ pBrd (hY (buH h p j k) p) = (buB h p k).1 ∧ pBen (hY (buH h p j k) p) = (buB h p k).2 ∧ pShp (hY (buH h p j k) p) j = none := by
  have eY : hY (buH h p j k) p = wG (wS1 (wB (hY h p) (buB h p k)) (fun i => if i = j then none else pShp (hY h p) i)) (pGold (hY h p) - cst k) := setY_p9
  rw [eY]
  exact ⟨rfl, rfl, rfl, if_pos rfl⟩
theorem buB_len {h : hT} {p k : Nat} : ∃ m, (buB h p k).1.length + (buB h p k).2.length + 2 * m = (pBrd (hY h p)).length + (pBen (hY h p)).length + 1 ∧ (m = 0 → buB h p k = (pBrd (hY h p), pBen (hY h p) ++ [10 * k + 1])) := by
  obtain ⟨m, h1, h2⟩ := merI_len 11 (pBrd (hY h p), pBen (hY h p) ++ [10 * k + 1])
  refine ⟨m, ?_, h2⟩
  have e : (pBen (hY h p) ++ [10 * k + 1]).length = (pBen (hY h p)).length + 1 := by rw [List.length_append]; rfl
  have h1 : (buB h p k).1.length + (buB h p k).2.length + 2 * m = (pBrd (hY h p)).length + (pBen (hY h p) ++ [10 * k + 1]).length := h1
  omega
def seH (h : hT) (p j k : Nat) : hT := (hQ (buH h p j k), incP (hP (buH h p j k)) k 1, (setY (buH h p j k) p (wG (wB (hY (buH h p j k) p) (pBrd (hY h p), pBen (hY h p))) (pGold (hY h p)))).2.2)
theorem se_yes {h : hT} {p j k : Nat} (hg : good h) (hp : p < 4) (c1 : ¬ pGold (hY h p) < cst k) (eB : buB h p k = (pBrd (hY h p), pBen (hY h p) ++ [10 * k + 1])) : fDo (buH h p j k) 5 (nI p) (nI (pBen (hY h p)).length) = (0, nI (pGold (hY h p)), seH h p j k) := by
  have e0 : ∀ x y, fDo (buH h p j k) 5 x y = fSell (buH h p j k) x y := fun _ _ => rfl
  obtain ⟨b1, b2, b3, b4⟩ := buH_at (h := h) (p := p) (j := j) (k := k)
  rw [eB] at b2 b3
  have b2 : pBrd (hY (buH h p j k) p) = pBrd (hY h p) := b2
  have b3 : pBen (hY (buH h p j k) p) = pBen (hY h p) ++ [10 * k + 1] := b3
  obtain ⟨l1, l2, l3⟩ := plOk_len hg.1 hp
  have hg1 := (hg.1.2.2.1 p hp).1
  have e2 : idx (pBen (hY (buH h p j k) p)).length (nI (pBen (hY h p)).length) = some (pBen (hY h p)).length := by
    rw [b3]
    refine idx_nI ?_ ?_
    · rw [List.length_append]
      exact Nat.lt_succ_self _
    · rw [List.length_append]
      show (pBen (hY h p)).length + 1 < 2 ^ 31
      omega
  have e5 : (10 * k + 1) / 10 = k := by omega
  have e6 : (10 * k + 1) % 10 = 1 := by omega
  have e7 : min 100 (pGold (hY h p) - cst k + cst k * wor 1) = pGold (hY h p) := by
    show min 100 (pGold (hY h p) - cst k + cst k * 1) = _
    omega
  rw [e0]
  simp only [fSell, idx_nI hp (by decide), e2]
  rw [b3, app_last, e5, e6, b1, e7, era_last, b2]
  rfl
theorem seH_at {h : hT} {p j k : Nat} : pBrd (hY (seH h p j k) p) = pBrd (hY h p) ∧ pBen (hY (seH h p j k) p) = pBen (hY h p) ∧ hP (seH h p j k) k = hP h k + 1 := by
  have eY : hY (seH h p j k) p = wG (wB (hY (buH h p j k) p) (pBrd (hY h p), pBen (hY h p))) (pGold (hY h p)) := setY_p9
  rw [eY]
  exact ⟨rfl, rfl, if_pos rfl⟩
/-- a call by its number, its answer and what is behind it known -/
theorem c_does_at {G : gG} {V : wV} {lo : Nat → Int64} {o : Nat} (ho : hallAt V o) {s : sgT} {h : hT} (hh : hallIs s o h) (hg : good h) (hfl : (gl G).stackTraces = false) {w : Nat} (hw : w < 9) {x y v : Int32} {h2 : hT} (e : aI (fDo h w x y) = v ∧ (fDo h w x y).2.2 = h2) : CSi G V mL_does cL_does (rmD 10 10 60) [.ref (ad V o), .int (nI w), .int x, .int y] s lo (fun r s' => aPost o s h2 v r s') (fun _ => False) := by
  obtain ⟨rfl, rfl⟩ := e
  exact c_L_does ho hh hg hfl hw
theorem gd_at {h h2 : hT} {w : Nat} {x y v : Int32} (hg : good h) (e : aI (fDo h w x y) = v ∧ (fDo h w x y).2.2 = h2) : good h2 := by
  rw [← e.2]
  exact gd_do hg
