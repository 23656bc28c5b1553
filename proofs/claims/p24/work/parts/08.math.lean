/-! numbers and lists: what the rows of units are asked -/
def wor (t : Nat) : Nat := if t = 1 then 1 else if t = 2 then 3 else 9
def cst (k : Nat) : Nat := k / 3 + 1
def hKb (l : List Nat) (k : Nat) : Bool := l.any (fun u => u / 10 == k)
def heldN (l : List Nat) (k : Nat) : Nat := (l.map (fun u => if u / 10 = k then wor (u % 10) else 0)).sum
def kinN (l : List Nat) (k : Nat) : Nat := (if k % 3 ≠ k ∧ hKb l (k % 3) = true then 1 else 0) + (if k % 3 + 3 ≠ k ∧ hKb l (k % 3 + 3) = true then 1 else 0) + (if k % 3 + 6 ≠ k ∧ hKb l (k % 3 + 6) = true then 1 else 0)
def strN (l : List Nat) (u : Nat) : Nat := 2 * cst (u / 10) * (u % 10) + kinN l (u / 10)
def hthN (u : Nat) : Nat := 6 * cst (u / 10) * (u % 10)
theorem tk {l : List Nat} {i : Nat} (h : i < l.length) : l.take (i + 1) = l.take i ++ [l.getD i 0] := by
  rw [List.take_succ_eq_append_getElem h]
  simp [h]
theorem getD_mem {l : List Nat} {i : Nat} (h : i < l.length) : l.getD i 0 ∈ l := by
  rw [List.getD_eq_getElem?_getD, List.getElem?_eq_getElem h]
  exact List.getElem_mem h
theorem mem_getD {l : List Nat} {u : Nat} (h : u ∈ l) : ∃ i, i < l.length ∧ l.getD i 0 = u := by
  obtain ⟨i, hi, e⟩ := List.mem_iff_getElem.mp h
  exact ⟨i, hi, by rw [List.getD_eq_getElem?_getD, List.getElem?_eq_getElem hi]; exact e⟩
theorem okR_mem {l : List Nat} : okR l ↔ ∀ u ∈ l, okU u := by
  constructor
  · intro h u hu
    obtain ⟨i, hi, rfl⟩ := mem_getD hu
    exact h i hi
  · intro h i hi
    exact h _ (getD_mem hi)
theorem hKb_iff {l : List Nat} {k : Nat} : hKb l k = true ↔ ∃ u ∈ l, u / 10 = k := by
  unfold hKb
  rw [List.any_eq_true]
  constructor
  · rintro ⟨u, hu, e⟩
    exact ⟨u, hu, by simpa using e⟩
  · rintro ⟨u, hu, e⟩
    exact ⟨u, hu, by simpa using e⟩
theorem count_take {l : List Nat} {i u : Nat} (h : i < l.length) : (l.take (i + 1)).count u = (l.take i).count u + if l.getD i 0 = u then 1 else 0 := by
  rw [tk h, List.count_append, List.count_singleton]
  by_cases e : l.getD i 0 = u
  · simp [e]
  · simp [e]
theorem held_take {l : List Nat} {i k : Nat} (h : i < l.length) : heldN (l.take (i + 1)) k = heldN (l.take i) k + if l.getD i 0 / 10 = k then wor (l.getD i 0 % 10) else 0 := by
  rw [tk h]
  simp [heldN]
theorem idx_find {l : List Nat} {i u : Nat} (h : i < l.length) (e : l.getD i 0 = u) (hn : ∀ j, j < i → l.getD j 0 ≠ u) : u ∈ l ∧ l.idxOf u = i := by
  refine ⟨e ▸ getD_mem h, ?_⟩
  have hm : u ∈ l := e ▸ getD_mem h
  have h1 : l.idxOf u < l.length := List.idxOf_lt_length_of_mem hm
  have h2 : l.getD (l.idxOf u) 0 = u := by
    rw [List.getD_eq_getElem?_getD, List.getElem?_eq_getElem h1]
    exact List.getElem_idxOf h1
  rcases Nat.lt_trichotomy (l.idxOf u) i with q | q | q
  · exact absurd h2 (hn _ q)
  · exact q
  · exfalso
    have h3 : l[i] = u := by
      rw [List.getD_eq_getElem?_getD, List.getElem?_eq_getElem h] at e
      exact e
    have h4 := List.not_of_lt_findIdx (p := (· == u)) (xs := l) (i := i) (by simpa [List.idxOf] using q)
    simp [h3] at h4
theorem mem_no {l : List Nat} {u : Nat} (hn : ∀ j, j < l.length → l.getD j 0 ≠ u) : u ∉ l := by
  intro hm
  obtain ⟨i, hi, e⟩ := mem_getD hm
  exact hn i hi e
theorem era_get {l : List Nat} {p i : Nat} (hi : i < (l.eraseIdx p).length) : (l.eraseIdx p).getD i 0 = if i < p then l.getD i 0 else l.getD (i + 1) 0 := by
  simp only [List.getD_eq_getElem?_getD, List.getElem?_eraseIdx]
  split <;> rfl
theorem app_get {l : List Nat} {u i : Nat} (hi : i < l.length) : (l ++ [u]).getD i 0 = l.getD i 0 := by
  simp only [List.getD_eq_getElem?_getD]
  rw [List.getElem?_append_left hi]
theorem app_last {l : List Nat} {u : Nat} : (l ++ [u]).getD l.length 0 = u := by
  simp [List.getD_eq_getElem?_getD]
theorem u_of {u k t : Nat} (h1 : u / 10 = k) (h2 : u % 10 = t) : u = 10 * k + t := by omega
/-- a loop over the fixed world -/
theorem loopW {G : gG} {V : wV} {M : mT} {cc : ByteArray} {rm : Room} {QF : Array Value → State → List Frame → State → Prop} {pc : Nat} {lo : Nat → Int64} {cells slots : Nat} {st : List Value} {σ : Type} (e : Nat) (Lf : Nat → σ → List (Option Value)) (sf : Nat → σ → sgT) (Inv : Nat → σ → Prop) (i0 : Nat) (x0 : σ) (hi0 : i0 ≤ e) (h0 : Inv i0 x0)
    (body : ∀ (i : Nat) (x : σ), i ≤ e → Inv i x → (i < e → ∀ x' : σ, Inv (i + 1) x' → RW G M cc rm QF pc (Lf (i + 1) x') st (wS G V (sf (i + 1) x') lo) cells slots) → RW G M cc rm QF pc (Lf i x) st (wS G V (sf i x) lo) cells slots) : RW G M cc rm QF pc (Lf i0 x0) st (wS G V (sf i0 x0) lo) cells slots := by
  have key : ∀ i, i ≤ e → ∀ x : σ, Inv i x → RW G M cc rm QF pc (Lf i x) st (wS G V (sf i x) lo) cells slots := by
    refine loopUp e (fun i hi ih x hx => ?_)
    exact body i x hi hx (fun hl x' hx' => ih hl x' hx')
  exact key i0 hi0 x0 h0
/-- a loop that turns while a measure falls -/
theorem loopM {G : gG} {V : wV} {M : mT} {cc : ByteArray} {rm : Room} {QF : Array Value → State → List Frame → State → Prop} {pc : Nat} {lo : Nat → Int64} {cells slots : Nat} {st : List Value} {σ : Type} (μ : σ → Nat) (Lf : σ → List (Option Value)) (sf : σ → sgT) (Inv : σ → Prop) (x0 : σ) (h0 : Inv x0)
    (body : ∀ (x : σ), Inv x → (∀ x' : σ, μ x' < μ x → Inv x' → RW G M cc rm QF pc (Lf x') st (wS G V (sf x') lo) cells slots) → RW G M cc rm QF pc (Lf x) st (wS G V (sf x) lo) cells slots) : RW G M cc rm QF pc (Lf x0) st (wS G V (sf x0) lo) cells slots := by
  have key : ∀ (n : Nat) (x : σ), μ x < n → Inv x → RW G M cc rm QF pc (Lf x) st (wS G V (sf x) lo) cells slots := by
    intro n
    induction n with
    | zero => intro x hx; exact absurd hx (Nat.not_lt_zero _)
    | succ n ih => intro x hx hi; exact body x hi (fun x' hl hi' => ih x' (by omega) hi')
  exact key _ x0 (Nat.lt_succ_self _) h0
