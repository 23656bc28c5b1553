/-! what holds of the hall behind every call: units in the pool or out of it; no three alike -/
def uW (u k : Nat) : Nat := if u / 10 = k then wor (u % 10) else 0
def ctr (x : plT) (k : Nat) : Nat := heldN (pBen x) k + heldN (pBrd x) k + shpN (pShp x) k 3
theorem outN_ctr {h : hT} {k : Nat} : outN h k 4 = ctr (hY h 0) k + ctr (hY h 1) k + ctr (hY h 2) k + ctr (hY h 3) k := by
  show 0 + ctr (hY h 0) k + ctr (hY h 1) k + ctr (hY h 2) k + ctr (hY h 3) k = _
  rw [Nat.zero_add]
theorem out_set {h : hT} {p k : Nat} {x : plT} (hp : p < 4) : outN (setY h p x) k 4 + ctr (hY h p) k = outN h k 4 + ctr x k := by
  have e : ∀ i, ctr (hY (setY h p x) i) k = if i = p then ctr x k else ctr (hY h i) k := by
    intro i
    show ctr (if i = p then x else hY h i) k = _
    split <;> rfl
  rw [outN_ctr, outN_ctr, e, e, e, e]
  have hc : p = 0 ∨ p = 1 ∨ p = 2 ∨ p = 3 := by omega
  rcases hc with rfl | rfl | rfl | rfl <;> (repeat' split) <;> omega
def CONS (h : hT) : Prop := ∀ k, k < 9 → hP h k + outN h k 4 = 9
def NM (h : hT) : Prop := ∀ p, p < 4 → fstU (pBrd (hY h p), pBen (hY h p)) = none
def good (h : hT) : Prop := hallOk 9 h ∧ CONS h ∧ NM h
theorem good_of {h : hT} {B : Nat} (h1 : hallOk B h) (h2 : CONS h) (h3 : NM h) : good h :=
  ⟨⟨h1.1, fun k hk => by have := h2 k hk; omega, h1.2.2⟩, h2, h3⟩
theorem cons_eq {h h' : hT} (e1 : hP h' = hP h) (e2 : hY h' = hY h) (hc : CONS h) : CONS h' := fun k hk => by
  have := hc k hk
  rw [outN_ctr] at this ⊢
  rw [e1, e2]
  exact this
theorem nm_eq {h h' : hT} (e2 : hY h' = hY h) (hc : NM h) : NM h' := fun p hp => by
  rw [e2]
  exact hc p hp
theorem cons_gen {h : hT} {p : Nat} {x : plT} {q : List Nat} {pl : Nat → Nat} (hp : p < 4) (hc : CONS h) (e : ∀ k, k < 9 → pl k + ctr x k = hP h k + ctr (hY h p) k) : CONS (q, pl, (setY h p x).2.2) := fun k hk => by
  have h1 := out_set (h := h) (x := x) (k := k) hp
  have h2 := hc k hk
  have h3 := e k hk
  have h4 : outN (q, pl, (setY h p x).2.2) k 4 = outN (setY h p x) k 4 := (outN_ctr).trans (outN_ctr (h := setY h p x)).symm
  show pl k + outN (q, pl, (setY h p x).2.2) k 4 = 9
  omega
theorem cons_set {h : hT} {p : Nat} {x : plT} (hp : p < 4) (hc : CONS h) (e : ∀ k, ctr x k = ctr (hY h p) k) : CONS (setY h p x) :=
  cons_gen (q := hQ h) (pl := hP h) hp hc (fun k _ => by rw [e k])
theorem nm_set {h : hT} {p : Nat} {x : plT} (hn : NM h) (e : fstU (pBrd x, pBen x) = none) : NM (setY h p x) := fun i hi => by
  show fstU (pBrd (if i = p then x else hY h i), pBen (if i = p then x else hY h i)) = none
  split
  · exact e
  · exact hn i hi
/-! filling a shop -/
theorem shp_ext {sh sh' : Nat → Option Nat} {k : Nat} : ∀ j, (∀ i, i < j → sh i = sh' i) → shpN sh k j = shpN sh' k j
  | 0, _ => rfl
  | j + 1, e => by
    simp only [shpN]
    rw [shp_ext j (fun i hi => e i (by omega)), e j (by omega)]
theorem fill1_sum {pl : Nat → Nat} {sh : Nat → Option Nat} {k : Nat} : ∀ j, fill1 pl sh j k = pl k + shpN sh k j
  | 0 => rfl
  | j + 1 => by
    have ih := fill1_sum (pl := pl) (sh := sh) (k := k) j
    simp only [fill1, shpN]
    cases e : sh j with
    | none =>
      show fill1 pl sh j k = _
      rw [ih, if_neg (by simp), Nat.add_zero]
    | some i =>
      show (if k = i then fill1 pl sh j k + 1 else fill1 pl sh j k) = _
      rw [ih]
      by_cases e2 : k = i
      · rw [if_pos e2, if_pos (congrArg some e2.symm)]
        omega
      · rw [if_neg e2, if_neg (fun q => e2 (Option.some.inj q).symm), Nat.add_zero]
theorem drawR_pos {pl : Nat → Nat} {n hc k : Nat} (h : drawR pl n hc = some k) : 0 < pl k := by
  unfold drawR at h
  split at h
  · cases h
  · exact (pickF_some h).2.2
theorem draw_sum {pl : Nat → Nat} {d : Option Nat} {k m : Nat} (hd : ∀ c, d = some c → 0 < pl c) : decP pl d k + (m + if d = some k then 1 else 0) = pl k + m := by
  cases d with
  | none =>
    show pl k + _ = _
    rw [if_neg (by simp)]
    omega
  | some c =>
    have h0 := hd c rfl
    show (if k = c then pl k - 1 else pl k) + _ = _
    by_cases e : k = c
    · subst e
      rw [if_pos rfl, if_pos rfl]
      omega
    · rw [if_neg e, if_neg (fun q => e (Option.some.inj q).symm)]
      omega
theorem fillS_sum {q : List Nat} {pl : Nat → Nat} {sh : Nat → Option Nat} {lev k : Nat} : ∀ j, (fillS q pl sh lev j).2.1 k + shpN (fillS q pl sh lev j).2.2 k j = fill1 pl sh 3 k
  | 0 => rfl
  | j + 1 => by
    have ih := fillS_sum (q := q) (pl := pl) (sh := sh) (lev := lev) (k := k) j
    simp only [fillS, shpN]
    generalize fillS q pl sh lev j = z at ih ⊢
    rw [shp_ext (sh' := z.2.2) j (fun i hi => if_neg (by omega)), if_pos trivial, draw_sum (fun c hc => drawR_pos hc)]
    exact ih
theorem cons_fill {h : hT} {p : Nat} (hp : p < 4) (hc : CONS h) : CONS (fillH h p) := by
  refine cons_gen (h := h) (p := p) hp hc (fun k _ => ?_)
  have h1 := fillS_sum (q := hQ h) (pl := hP h) (sh := pShp (hY h p)) (lev := pLev (hY h p)) (k := k) 3
  rw [fill1_sum] at h1
  show _ + (heldN (pBen (hY h p)) k + heldN (pBrd (hY h p)) k + shpN (fillS (hQ h) (hP h) (pShp (hY h p)) (pLev (hY h p)) 3).2.2 k 3) = hP h k + (heldN (pBen (hY h p)) k + heldN (pBrd (hY h p)) k + shpN (pShp (hY h p)) k 3)
  omega
theorem nm_fill {h : hT} {p : Nat} (hp : p < 4) (hn : NM h) : NM (fillH h p) := nm_eq (h := setY h p (wS1 (hY h p) (fillS (hQ h) (hP h) (pShp (hY h p)) (pLev (hY h p)) 3).2.2)) rfl (nm_set hn (hn p hp))
/-! units held, counted -/
theorem held_cons {a : Nat} {l : List Nat} {k : Nat} : heldN (a :: l) k = uW a k + heldN l k := by simp [heldN, uW]
theorem held_app {l : List Nat} {u k : Nat} : heldN (l ++ [u]) k = heldN l k + uW u k := by simp [heldN, uW]
theorem held_era {k : Nat} : ∀ {l : List Nat} {i : Nat}, i < l.length → heldN (l.eraseIdx i) k + uW (l.getD i 0) k = heldN l k
  | [], i, h => absurd h (Nat.not_lt_zero _)
  | a :: l, 0, _ => by
    show heldN l k + uW a k = heldN (a :: l) k
    rw [held_cons]
    omega
  | a :: l, i + 1, h => by
    have ih := held_era (k := k) (l := l) (i := i) (by simpa using h)
    show heldN (a :: l.eraseIdx i) k + uW (l.getD i 0) k = heldN (a :: l) k
    rw [held_cons, held_cons]
    omega
theorem held_set {k v : Nat} : ∀ {l : List Nat} {i : Nat}, i < l.length → heldN (l.set i v) k + uW (l.getD i 0) k = heldN l k + uW v k
  | [], i, h => absurd h (Nat.not_lt_zero _)
  | a :: l, 0, _ => by
    show heldN (v :: l) k + uW a k = heldN (a :: l) k + uW v k
    rw [held_cons, held_cons]
    omega
  | a :: l, i + 1, h => by
    have ih := held_set (k := k) (v := v) (l := l) (i := i) (by simpa using h)
    show heldN (a :: l.set i v) k + uW (l.getD i 0) k = heldN (a :: l) k + uW v k
    rw [held_cons, held_cons]
    omega
theorem cnt_eraI {u : Nat} : ∀ {l : List Nat} {i : Nat}, i < l.length → (l.eraseIdx i).count u + (if l.getD i 0 = u then 1 else 0) = l.count u
  | [], i, h => absurd h (Nat.not_lt_zero _)
  | a :: l, 0, _ => by
    show l.count u + (if a = u then 1 else 0) = (a :: l).count u
    rw [List.count_cons]
    by_cases e : a = u
    · simp [e]
    · simp [e]
  | a :: l, i + 1, h => by
    have ih := cnt_eraI (u := u) (l := l) (i := i) (by simpa using h)
    show (a :: l.eraseIdx i).count u + (if l.getD i 0 = u then 1 else 0) = (a :: l).count u
    rw [List.count_cons, List.count_cons]
    omega
theorem cnt_app {l : List Nat} {u v : Nat} : (l ++ [v]).count u = l.count u + if v = u then 1 else 0 := by
  rw [List.count_append, List.count_singleton]
  by_cases e : v = u
  · simp [e]
  · simp [e]
def hU (b : bbT) (k : Nat) : Nat := heldN b.1 k + heldN b.2 k
theorem held_rep {b : bbT} {u k : Nat} (h : 0 < cntU b u) : hU (repU b u) k + uW u k = hU b k + uW (u + 1) k := by
  unfold repU
  split
  · rename_i hm
    obtain ⟨i1, i2⟩ := idx_lt hm
    have := held_set (k := k) (v := u + 1) i1
    rw [i2] at this
    show heldN (b.1.set _ _) k + heldN b.2 k + _ = heldN b.1 k + heldN b.2 k + _
    omega
  · rename_i hm
    obtain ⟨i1, i2⟩ := idx_lt (cnt_pos h hm)
    have := held_set (k := k) (v := u + 1) i1
    rw [i2] at this
    show heldN b.1 k + heldN (b.2.set _ _) k + _ = heldN b.1 k + heldN b.2 k + _
    omega
theorem held_eraU {b : bbT} {u k : Nat} (h : 0 < cntU b u) : hU (eraU b u) k + uW u k = hU b k := by
  unfold eraU
  split
  · rename_i hm
    obtain ⟨i1, i2⟩ := idx_lt hm
    have := held_era (k := k) i1
    rw [i2] at this
    show heldN (b.1.eraseIdx _) k + heldN b.2 k + _ = heldN b.1 k + heldN b.2 k
    omega
  · rename_i hm
    obtain ⟨i1, i2⟩ := idx_lt (cnt_pos h hm)
    have := held_era (k := k) i1
    rw [i2] at this
    show heldN b.1 k + heldN (b.2.eraseIdx _) k + _ = heldN b.1 k + heldN b.2 k
    omega
theorem uW_up {u k : Nat} (h1 : okU u) (h2 : okU (u + 1)) : uW (u + 1) k = 3 * uW u k := by
  unfold okU at h1 h2
  have e : (u + 1) / 10 = u / 10 := by omega
  unfold uW
  rw [e]
  by_cases c : u / 10 = k
  · rw [if_pos c, if_pos c]
    have hc : (u % 10 = 1 ∧ (u + 1) % 10 = 2) ∨ (u % 10 = 2 ∧ (u + 1) % 10 = 3) := by omega
    rcases hc with ⟨e1, e2⟩ | ⟨e1, e2⟩
    · rw [e1, e2]
      rfl
    · rw [e1, e2]
      rfl
  · rw [if_neg c, if_neg c]
theorem held_mer {b : bbT} {u k : Nat} (hc : 3 ≤ cntU b u) : hU (merU b u) k + 3 * uW u k = hU b k + uW (u + 1) k := by
  unfold merU
  have a1 := (cnt_rep (b := b) (u := u) (by omega)).1
  have b1 := (cnt_era (b := repU b u) (u := u) (by omega)).1
  have g1 := held_rep (b := b) (u := u) (k := k) (by omega)
  have g2 := held_eraU (b := repU b u) (u := u) (k := k) (by omega)
  have g3 := held_eraU (b := eraU (repU b u) u) (u := u) (k := k) (by omega)
  omega
theorem held_merI {k : Nat} : ∀ (n : Nat) (b : bbT), hU (merI n b) k = hU b k
  | 0, _ => rfl
  | n + 1, b => by
    cases e : fstU b with
    | none => rw [merI_none e]
    | some u =>
      obtain ⟨g1, g2, g3⟩ := mer_fst e
      have h1 := held_mer (k := k) g3
      have h2 := uW_up (k := k) g1 g2
      rw [merI_some e, held_merI n]
      omega
theorem mer_len {b : bbT} {u : Nat} (hc : 3 ≤ cntU b u) : (merU b u).1.length + (merU b u).2.length + 2 = b.1.length + b.2.length := by
  unfold merU
  obtain ⟨a1, a2, a3⟩ := cnt_rep (b := b) (u := u) (by omega)
  obtain ⟨b1, b2, b3, b4⟩ := cnt_era (b := repU b u) (u := u) (by omega)
  obtain ⟨c1, c2, c3, c4⟩ := cnt_era (b := eraU (repU b u) u) (u := u) (by omega)
  omega
/-- each merging takes two units away -/
theorem merI_len : ∀ (n : Nat) (b : bbT), ∃ m, (merI n b).1.length + (merI n b).2.length + 2 * m = b.1.length + b.2.length ∧ (m = 0 → merI n b = b)
  | 0, b => ⟨0, rfl, fun _ => rfl⟩
  | n + 1, b => by
    cases e : fstU b with
    | none => exact ⟨0, by rw [merI_none e, Nat.mul_zero, Nat.add_zero], fun _ => merI_none e _⟩
    | some u =>
      obtain ⟨g1, g2, g3⟩ := mer_fst e
      obtain ⟨m, h1, h2⟩ := merI_len n (merU b u)
      have h3 := mer_len g3
      exact ⟨m + 1, by rw [merI_some e]; omega, fun h => absurd h (Nat.succ_ne_zero m)⟩
theorem fstJ_none {b : bbT} : ∀ {f j : Nat}, fstJ b f j = none ↔ ∀ i, j ≤ i → i < j + f → cntU b (uJ i) < 3
  | 0, j => ⟨fun _ i h1 h2 => absurd h2 (by omega), fun _ => rfl⟩
  | f + 1, j => by
    simp only [fstJ]
    constructor
    · intro e i h1 h2
      split at e
      · cases e
      · rename_i hc
        rcases Nat.lt_or_ge j i with q | q
        · exact fstJ_none.mp e i (by omega) (by omega)
        · have : i = j := by omega
          subst this
          omega
    · intro hh
      have := hh j (Nat.le_refl _) (by omega)
      rw [if_neg (by omega)]
      exact fstJ_none.mpr (fun i h1 h2 => hh i (by omega) (by omega))
theorem fst_le {b b' : bbT} (h : fstU b = none) (e : ∀ u, cntU b' u ≤ cntU b u) : fstU b' = none := by
  unfold fstU at h ⊢
  rw [fstJ_none] at h ⊢
  intro i h1 h2
  have := h i h1 h2
  have := e (uJ i)
  omega
theorem cnt_len {l : List Nat} {u : Nat} : l.count u ≤ l.length := List.count_le_length
theorem merI_end : ∀ (n : Nat) (b : bbT), b.1.length + b.2.length ≤ 2 * n → fstU (merI n b) = none
  | 0, b, h => by
    show fstU b = none
    unfold fstU
    rw [fstJ_none]
    intro i _ _
    have h1 := cnt_len (l := b.1) (u := uJ i)
    have h2 := cnt_len (l := b.2) (u := uJ i)
    show b.1.count (uJ i) + b.2.count (uJ i) < 3
    omega
  | n + 1, b, h => by
    cases e : fstU b with
    | none => rw [merI_none e]; exact e
    | some u =>
      obtain ⟨g1, g2, g3⟩ := mer_fst e
      have h3 := mer_len g3
      rw [merI_some e]
      exact merI_end n _ (by omega)
/-! what every call keeps -/
theorem cons_tell {h : hT} {x : Int32} (hc : CONS h) : CONS (fTell h x).2.2 := by
  unfold fTell
  split
  · exact hc
  · split
    · exact hc
    · exact cons_eq (h := h) rfl rfl hc
theorem nm_tell {h : hT} {x : Int32} (hc : NM h) : NM (fTell h x).2.2 := by
  unfold fTell
  split
  · exact hc
  · split
    · exact hc
    · exact nm_eq (h := h) rfl hc
theorem cons_roll {h : hT} {x : Int32} (hc : CONS h) : CONS (fRoll h x).2.2 := by
  unfold fRoll
  split
  · exact hc
  · rename_i p e
    have hp := idx_lt4 e
    split
    · exact hc
    · exact cons_set hp (cons_fill hp (cons_set (x := wG (hY h p) (pGold (hY h p) - 1)) hp hc (fun _ => rfl))) (fun _ => rfl)
theorem nm_roll {h : hT} {x : Int32} (hc : NM h) : NM (fRoll h x).2.2 := by
  unfold fRoll
  split
  · exact hc
  · rename_i p e
    have hp := idx_lt4 e
    split
    · exact hc
    · have h1 := nm_fill hp (nm_set (p := p) (x := wG (hY h p) (pGold (hY h p) - 1)) hc (hc p hp))
      exact nm_set h1 (h1 p hp)
theorem cons_toggle {h : hT} {x : Int32} (hc : CONS h) : CONS (fToggle h x).2.2 := by
  unfold fToggle
  split
  · exact hc
  · rename_i p e
    exact cons_set (idx_lt4 e) hc (fun _ => rfl)
theorem nm_toggle {h : hT} {x : Int32} (hc : NM h) : NM (fToggle h x).2.2 := by
  unfold fToggle
  split
  · exact hc
  · rename_i p e
    exact nm_set hc (hc p (idx_lt4 e))
theorem cons_level {h : hT} {x : Int32} (hc : CONS h) : CONS (fLevel h x).2.2 := by
  unfold fLevel
  split
  · exact hc
  · rename_i p e
    split
    · exact hc
    · split
      · exact hc
      · exact cons_set (idx_lt4 e) hc (fun _ => rfl)
theorem nm_level {h : hT} {x : Int32} (hc : NM h) : NM (fLevel h x).2.2 := by
  unfold fLevel
  split
  · exact hc
  · rename_i p e
    split
    · exact hc
    · split
      · exact hc
      · exact nm_set hc (hc p (idx_lt4 e))
theorem shp_take {sh : Nat → Option Nat} {j k c : Nat} (hj : sh j = some c) : ∀ n, shpN (fun i => if i = j then none else sh i) k n + (if j < n ∧ c = k then 1 else 0) = shpN sh k n
  | 0 => by simp [shpN]
  | n + 1 => by
    have ih := shp_take (sh := sh) (j := j) (k := k) (c := c) hj n
    simp only [shpN]
    by_cases e : n = j
    · subst e
      have e1 : (if (if n = n then none else sh n) = some k then 1 else 0) = (0 : Nat) := if_neg (by rw [if_pos rfl]; simp)
      rw [if_neg (by omega)] at ih
      rw [e1]
      by_cases e2 : c = k
      · rw [if_pos (show n < n + 1 ∧ c = k from ⟨by omega, e2⟩), if_pos (hj.trans (congrArg some e2))]
        omega
      · rw [if_neg (show ¬ (n < n + 1 ∧ c = k) from fun q => e2 q.2), if_neg (fun q => e2 (Option.some.inj (hj.symm.trans q)))]
        omega
    · have e1 : (if (if n = j then none else sh n) = some k then 1 else 0) = (if sh n = some k then 1 else 0 : Nat) := by
        have e0 : (if n = j then none else sh n) = sh n := if_neg e
        simp only [e0]
      rw [e1]
      by_cases e2 : j < n ∧ c = k
      · rw [if_pos e2] at ih
        rw [if_pos (show j < n + 1 ∧ c = k from ⟨by omega, e2.2⟩)]
        omega
      · rw [if_neg e2] at ih
        rw [if_neg (show ¬ (j < n + 1 ∧ c = k) from fun q => e2 ⟨by omega, q.2⟩)]
        omega
theorem uW_new {c k : Nat} : uW (10 * c + 1) k = if c = k then 1 else 0 := by
  unfold uW
  have e1 : (10 * c + 1) / 10 = c := by omega
  have e2 : (10 * c + 1) % 10 = 1 := by omega
  rw [e1, e2]
  rfl
theorem cons_buy {h : hT} {x y : Int32} (hc : CONS h) : CONS (fBuy h x y).2.2 := by
  unfold fBuy
  split
  · exact hc
  · rename_i p e
    have hp := idx_lt4 e
    split
    · exact hc
    · rename_i j ej
      have hj := idx_lt4 ej
      split
      · exact hc
      · rename_i c ec
        split
        · exact hc
        · split
          · exact hc
          · refine cons_set hp hc (fun k => ?_)
            have h1 := held_merI (k := k) 11 (pBrd (hY h p), pBen (hY h p) ++ [10 * c + 1])
            have h2 := shp_take (k := k) ec 3
            have h3 := held_app (l := pBen (hY h p)) (u := 10 * c + 1) (k := k)
            rw [uW_new] at h3
            have h4 : hU (pBrd (hY h p), pBen (hY h p) ++ [10 * c + 1]) k = heldN (pBrd (hY h p)) k + heldN (pBen (hY h p) ++ [10 * c + 1]) k := rfl
            show heldN (merI 11 (pBrd (hY h p), pBen (hY h p) ++ [10 * c + 1])).2 k + heldN (merI 11 (pBrd (hY h p), pBen (hY h p) ++ [10 * c + 1])).1 k + shpN (fun i => if i = j then none else pShp (hY h p) i) k 3 = heldN (pBen (hY h p)) k + heldN (pBrd (hY h p)) k + shpN (pShp (hY h p)) k 3
            have h5 : hU (merI 11 (pBrd (hY h p), pBen (hY h p) ++ [10 * c + 1])) k = heldN (merI 11 (pBrd (hY h p), pBen (hY h p) ++ [10 * c + 1])).1 k + heldN (merI 11 (pBrd (hY h p), pBen (hY h p) ++ [10 * c + 1])).2 k := rfl
            by_cases e2 : c = k
            · rw [if_pos ⟨hj, e2⟩] at h2
              rw [if_pos e2] at h3
              omega
            · rw [if_neg (fun q => e2 q.2)] at h2
              rw [if_neg e2] at h3
              omega
theorem plOk_len {B : Nat} {h : hT} {p : Nat} (hk : hallOk B h) (hp : p < 4) : (pBen (hY h p)).length ≤ 6 ∧ (pBrd (hY h p)).length ≤ 5 ∧ (pBrd (hY h p)).length ≤ pLev (hY h p) := by
  obtain ⟨o1, o2, o3, o4, o5, o6, o7, o8, o9⟩ := hk.2.2.1 p hp
  exact ⟨o8, by omega, o9⟩
theorem nm_buy {B : Nat} {h : hT} {x y : Int32} (hk : hallOk B h) (hc : NM h) : NM (fBuy h x y).2.2 := by
  unfold fBuy
  split
  · exact hc
  · rename_i p e
    have hp := idx_lt4 e
    split
    · exact hc
    · split
      · exact hc
      · rename_i c ec
        split
        · exact hc
        · split
          · exact hc
          · refine nm_set hc ?_
            obtain ⟨l1, l2, -⟩ := plOk_len hk hp
            exact merI_end 11 (pBrd (hY h p), pBen (hY h p) ++ [10 * c + 1]) (by
              show (pBrd (hY h p)).length + (pBen (hY h p) ++ [10 * c + 1]).length ≤ 2 * 11
              rw [List.length_append]
              show _ + (_ + 1) ≤ _
              omega)
theorem cons_sell {h : hT} {x y : Int32} (hc : CONS h) : CONS (fSell h x y).2.2 := by
  unfold fSell
  split
  · exact hc
  · rename_i p e
    have hp := idx_lt4 e
    split
    · exact hc
    · rename_i i ei
      have hi := idx_lt4 ei
      refine cons_gen (h := h) (p := p) hp hc (fun k _ => ?_)
      have h1 := held_era (k := k) hi
      show (if k = (pBen (hY h p)).getD i 0 / 10 then hP h k + wor ((pBen (hY h p)).getD i 0 % 10) else hP h k) + (heldN ((pBen (hY h p)).eraseIdx i) k + heldN (pBrd (hY h p)) k + shpN (pShp (hY h p)) k 3) = hP h k + (heldN (pBen (hY h p)) k + heldN (pBrd (hY h p)) k + shpN (pShp (hY h p)) k 3)
      unfold uW at h1
      by_cases e2 : (pBen (hY h p)).getD i 0 / 10 = k
      · rw [if_pos e2] at h1
        rw [if_pos e2.symm]
        omega
      · rw [if_neg e2] at h1
        rw [if_neg (fun q => e2 q.symm)]
        omega
theorem nm_sell {h : hT} {x y : Int32} (hc : NM h) : NM (fSell h x y).2.2 := by
  unfold fSell
  split
  · exact hc
  · rename_i p e
    have hp := idx_lt4 e
    split
    · exact hc
    · rename_i i ei
      have hi := idx_lt4 ei
      refine nm_eq (h := setY h p (wG (wB (hY h p) (pBrd (hY h p), (pBen (hY h p)).eraseIdx i)) (min 100 (pGold (hY h p) + cst ((pBen (hY h p)).getD i 0 / 10) * wor ((pBen (hY h p)).getD i 0 % 10))))) rfl (nm_set hc ?_)
      refine fst_le (hc p hp) (fun u => ?_)
      have h1 := cnt_eraI (u := u) hi
      show (pBrd (hY h p)).count u + ((pBen (hY h p)).eraseIdx i).count u ≤ (pBrd (hY h p)).count u + (pBen (hY h p)).count u
      omega
theorem mov_cnt {a b : List Nat} {i u : Nat} (hi : i < b.length) : cntU (a ++ [b.getD i 0], b.eraseIdx i) u = cntU (a, b) u := by
  have h1 := cnt_eraI (u := u) hi
  have h2 := cnt_app (l := a) (u := u) (v := b.getD i 0)
  show (a ++ [b.getD i 0]).count u + (b.eraseIdx i).count u = a.count u + b.count u
  omega
theorem cons_board {h : hT} {x y : Int32} (hc : CONS h) : CONS (fBoard h x y).2.2 := by
  unfold fBoard
  split
  · exact hc
  · rename_i p e
    have hp := idx_lt4 e
    split
    · exact hc
    · rename_i i ei
      have hi := idx_lt4 ei
      split
      · exact hc
      · refine cons_set hp hc (fun k => ?_)
        have h1 := held_era (k := k) hi
        have h2 := held_app (l := pBrd (hY h p)) (u := (pBen (hY h p)).getD i 0) (k := k)
        show heldN ((pBen (hY h p)).eraseIdx i) k + heldN (pBrd (hY h p) ++ [(pBen (hY h p)).getD i 0]) k + shpN (pShp (hY h p)) k 3 = heldN (pBen (hY h p)) k + heldN (pBrd (hY h p)) k + shpN (pShp (hY h p)) k 3
        omega
theorem nm_board {h : hT} {x y : Int32} (hc : NM h) : NM (fBoard h x y).2.2 := by
  unfold fBoard
  split
  · exact hc
  · rename_i p e
    have hp := idx_lt4 e
    split
    · exact hc
    · rename_i i ei
      have hi := idx_lt4 ei
      split
      · exact hc
      · exact nm_set hc (fst_le (hc p hp) (fun u => Nat.le_of_eq (mov_cnt hi)))
theorem cons_bench {h : hT} {x y : Int32} (hc : CONS h) : CONS (fBench h x y).2.2 := by
  unfold fBench
  split
  · exact hc
  · rename_i p e
    have hp := idx_lt4 e
    split
    · exact hc
    · rename_i i ei
      have hi := idx_lt4 ei
      split
      · exact hc
      · refine cons_set hp hc (fun k => ?_)
        have h1 := held_era (k := k) hi
        have h2 := held_app (l := pBen (hY h p)) (u := (pBrd (hY h p)).getD i 0) (k := k)
        have h3 := held_merI (k := k) 11 ((pBrd (hY h p)).eraseIdx i, pBen (hY h p) ++ [(pBrd (hY h p)).getD i 0])
        have h4 : hU ((pBrd (hY h p)).eraseIdx i, pBen (hY h p) ++ [(pBrd (hY h p)).getD i 0]) k = heldN ((pBrd (hY h p)).eraseIdx i) k + heldN (pBen (hY h p) ++ [(pBrd (hY h p)).getD i 0]) k := rfl
        have h5 : hU (merI 11 ((pBrd (hY h p)).eraseIdx i, pBen (hY h p) ++ [(pBrd (hY h p)).getD i 0])) k = heldN (merI 11 ((pBrd (hY h p)).eraseIdx i, pBen (hY h p) ++ [(pBrd (hY h p)).getD i 0])).1 k + heldN (merI 11 ((pBrd (hY h p)).eraseIdx i, pBen (hY h p) ++ [(pBrd (hY h p)).getD i 0])).2 k := rfl
        show heldN (merI 11 ((pBrd (hY h p)).eraseIdx i, pBen (hY h p) ++ [(pBrd (hY h p)).getD i 0])).2 k + heldN (merI 11 ((pBrd (hY h p)).eraseIdx i, pBen (hY h p) ++ [(pBrd (hY h p)).getD i 0])).1 k + shpN (pShp (hY h p)) k 3 = heldN (pBen (hY h p)) k + heldN (pBrd (hY h p)) k + shpN (pShp (hY h p)) k 3
        omega
theorem nm_bench {B : Nat} {h : hT} {x y : Int32} (hk : hallOk B h) (hc : NM h) : NM (fBench h x y).2.2 := by
  unfold fBench
  split
  · exact hc
  · rename_i p e
    have hp := idx_lt4 e
    split
    · exact hc
    · rename_i i ei
      have hi := idx_lt4 ei
      split
      · exact hc
      · refine nm_set hc ?_
        obtain ⟨l1, l2, -⟩ := plOk_len hk hp
        have l3 := era_len hi
        exact merI_end 11 ((pBrd (hY h p)).eraseIdx i, pBen (hY h p) ++ [(pBrd (hY h p)).getD i 0]) (by
          show ((pBrd (hY h p)).eraseIdx i).length + (pBen (hY h p) ++ [(pBrd (hY h p)).getD i 0]).length ≤ 2 * 11
          rw [List.length_append]
          show _ + (_ + 1) ≤ _
          omega)
def sameU (x y : plT) : Prop := pBen x = pBen y ∧ pBrd x = pBrd y ∧ pShp x = pShp y
theorem cons_same {h : hT} {p : Nat} {x : plT} (hp : p < 4) (hc : CONS h) (e : sameU x (hY h p)) : CONS (setY h p x) := cons_set hp hc (fun k => by
  unfold ctr
  rw [e.1, e.2.1, e.2.2])
theorem nm_same {h : hT} {p : Nat} {x : plT} (hp : p < 4) (hc : NM h) (e : sameU x (hY h p)) : NM (setY h p x) := nm_set hc (by
  rw [e.1, e.2.1]
  exact hc p hp)
theorem same_set {h : hT} {p i : Nat} {x : plT} (e : sameU x (hY h p)) : sameU (hY (setY h p x) i) (hY h i) := by
  show sameU (if i = p then x else hY h i) (hY h i)
  split
  · rename_i c
    rw [c]
    exact e
  · exact ⟨rfl, rfl, rfl⟩
theorem same_to {h : hT} {p i : Nat} {x y : plT} (e : sameU x (hY h p)) (d : sameU y (hY h i)) : sameU y (hY (setY h p x) i) := by
  have q := same_set (i := i) e
  exact ⟨d.1.trans q.1.symm, d.2.1.trans q.2.1.symm, d.2.2.trans q.2.2.symm⟩
theorem cons_pair {h : hT} {p q : Nat} (hp : p < 4) (hq : q < 4) (hc : CONS h) : CONS (pairH h p q) := by
  unfold pairH
  split
  · exact cons_same hq (cons_same hp hc ⟨rfl, rfl, rfl⟩) (same_to ⟨rfl, rfl, rfl⟩ ⟨rfl, rfl, rfl⟩)
  · split
    · exact cons_same hp (cons_same hq hc ⟨rfl, rfl, rfl⟩) (same_to ⟨rfl, rfl, rfl⟩ ⟨rfl, rfl, rfl⟩)
    · exact cons_same hq (cons_same hp hc ⟨rfl, rfl, rfl⟩) (same_to ⟨rfl, rfl, rfl⟩ ⟨rfl, rfl, rfl⟩)
theorem nm_pair {h : hT} {p q : Nat} (hp : p < 4) (hq : q < 4) (hc : NM h) : NM (pairH h p q) := by
  unfold pairH
  split
  · exact nm_set (nm_set hc (hc p hp)) (hc q hq)
  · split
    · exact nm_set (nm_set hc (hc q hq)) (hc p hp)
    · exact nm_set (nm_set hc (hc p hp)) (hc q hq)
theorem cons_ea {h : hT} (hc : CONS h) : ∀ i, i ≤ 4 → CONS (eaH h i)
  | 0, _ => hc
  | i + 1, hi => cons_same (by omega) (cons_ea hc i (by omega)) ⟨rfl, rfl, rfl⟩
theorem nm_ea {h : hT} (hc : NM h) : ∀ i, i ≤ 4 → NM (eaH h i)
  | 0, _ => hc
  | i + 1, hi => nm_same (by omega) (nm_ea hc i (by omega)) ⟨rfl, rfl, rfl⟩
theorem cons_fu {h : hT} (hc : CONS h) : ∀ i, i ≤ 4 → CONS (fuH h i)
  | 0, _ => hc
  | i + 1, hi => by
    have ih := cons_fu hc i (by omega)
    refine cons_same (by omega) ?_ ⟨rfl, rfl, rfl⟩
    split
    · exact ih
    · exact cons_fill (by omega) ih
theorem nm_fu {h : hT} (hc : NM h) : ∀ i, i ≤ 4 → NM (fuH h i)
  | 0, _ => hc
  | i + 1, hi => by
    have ih := nm_fu hc i (by omega)
    refine nm_same (by omega) ?_ ⟨rfl, rfl, rfl⟩
    split
    · exact ih
    · exact nm_fill (by omega) ih
theorem cons_rd {h : hT} (hc : CONS h) : CONS (rdH h) := by
  unfold rdH prs
  split
  · exact cons_pair (by decide) (by decide) (cons_pair (by decide) (by decide) hc)
  · split
    · exact cons_pair (by decide) (by decide) (cons_pair (by decide) (by decide) hc)
    · exact cons_pair (by decide) (by decide) (cons_pair (by decide) (by decide) hc)
theorem nm_rd {h : hT} (hc : NM h) : NM (rdH h) := by
  unfold rdH prs
  split
  · exact nm_pair (by decide) (by decide) (nm_pair (by decide) (by decide) hc)
  · split
    · exact nm_pair (by decide) (by decide) (nm_pair (by decide) (by decide) hc)
    · exact nm_pair (by decide) (by decide) (nm_pair (by decide) (by decide) hc)
theorem cons_round {h : hT} (hc : CONS h) : CONS (fRound h).2.2 := by
  unfold fRound
  split
  · exact hc
  · exact cons_eq (h := fuH (eaH (rdH h) 4) 4) rfl rfl (cons_fu (cons_ea (cons_rd hc) 4 (by decide)) 4 (by decide))
theorem nm_round {h : hT} (hc : NM h) : NM (fRound h).2.2 := by
  unfold fRound
  split
  · exact hc
  · exact nm_eq (h := fuH (eaH (rdH h) 4) 4) rfl (nm_fu (nm_ea (nm_rd hc) 4 (by decide)) 4 (by decide))
/-! a call by its number -/
def fDo (h : hT) (w : Nat) (a b : Int32) : rT :=
  if w = 0 then fTell h a else if w = 1 then fRoll h a else if w = 2 then fToggle h a else if w = 3 then fLevel h a else if w = 4 then fBuy h a b else if w = 5 then fSell h a b else if w = 6 then fBoard h a b else if w = 7 then fBench h a b else fRound h
def aI (r : rT) : Int32 := if r.1 = 0 then r.2.1 else -99999
theorem gd_do {h : hT} {w : Nat} {a b : Int32} (hg : good h) : good (fDo h w a b).2.2 := by
  obtain ⟨h1, h2, h3⟩ := hg
  unfold fDo
  split
  · exact good_of (ok_tell h1) (cons_tell h2) (nm_tell h3)
  split
  · exact good_of (ok_roll h1) (cons_roll h2) (nm_roll h3)
  split
  · exact good_of (ok_toggle h1) (cons_toggle h2) (nm_toggle h3)
  split
  · exact good_of (ok_level h1) (cons_level h2) (nm_level h3)
  split
  · exact good_of (ok_buy h1) (cons_buy h2) (nm_buy h1 h3)
  split
  · exact good_of (ok_sell h1) (cons_sell h2) (nm_sell h3)
  split
  · exact good_of (ok_board h1) (cons_board h2) (nm_board h3)
  split
  · exact good_of (ok_bench h1) (cons_bench h2) (nm_bench h1 h3)
  · exact good_of (ok_round h1) (cons_round h2) (nm_round h3)
/-- what throws changes nothing -/
theorem do_same {h : hT} {w : Nat} {a b : Int32} (e : ¬ (fDo h w a b).1 = 0) : (fDo h w a b).2.2 = h := by
  unfold fDo at e ⊢
  repeat' (split at e)
  all_goals first
    | (unfold fTell at e ⊢; repeat' (split at e)) | (unfold fRoll at e ⊢; repeat' (split at e)) | (unfold fToggle at e ⊢; repeat' (split at e)) | (unfold fLevel at e ⊢; repeat' (split at e)) | (unfold fBuy at e ⊢; repeat' (split at e)) | (unfold fSell at e ⊢; repeat' (split at e)) | (unfold fBoard at e ⊢; repeat' (split at e)) | (unfold fBench at e ⊢; repeat' (split at e)) | (unfold fRound at e ⊢; repeat' (split at e))
  all_goals first | exact absurd rfl e | (simp_all; done)
