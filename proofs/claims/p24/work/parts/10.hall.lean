/-! a hall's parts as values, and where they lie -/
/-- the numbers told: in a ring of 100 behind nb -/
def numsIs (s : sgT) (nb : Nat) (q : List Nat) : Prop := ∃ f : Nat, f < 100 ∧ s nb 1 = nI f ∧ s nb 2 = nI q.length ∧ q.length ≤ 100 ∧ ∀ i, i < q.length → s (nb + 1) ((f + i) % 100) = nI (q.getD i 0)
def poolIs (s : sgT) (a : Nat) (pl : Nat → Nat) : Prop := ∀ k, k < 9 → s a k = nI (pl k)
def poolOk (B : Nat) (pl : Nat → Nat) : Prop := ∀ k, k < 9 → pl k ≤ B
def upI (pl : Nat → Nat) (hc : Nat) : Nat → Nat
  | 0 => 0
  | k + 1 => upI pl hc k + if cst k ≤ hc then pl k else 0
def pickF (pl : Nat → Nat) : Nat → Nat → Nat → Option Nat
  | 0, _, _ => none
  | f + 1, k, p => if p < pl k then some k else pickF pl f (k + 1) (p - pl k)
def drawR (pl : Nat → Nat) (n hc : Nat) : Option Nat := if upI pl hc 9 = 0 then none else pickF pl 9 0 (n % upI pl hc 9)
def incP (pl : Nat → Nat) (k n : Nat) : Nat → Nat := fun j => if j = k then pl j + n else pl j
def decP (pl : Nat → Nat) : Option Nat → Nat → Nat
  | none => pl
  | some k => fun j => if j = k then pl j - 1 else pl j
theorem upI_le {pl : Nat → Nat} {hc B : Nat} (h : poolOk B pl) : ∀ k, k ≤ 9 → upI pl hc k ≤ k * B
  | 0, _ => by simp [upI]
  | k + 1, hk => by
    have h1 := upI_le (hc := hc) h k (by omega)
    have h2 := h k (by omega)
    have e : (k + 1) * B = k * B + B := Nat.succ_mul k B
    simp only [upI]
    split <;> omega
theorem pickF_some {pl : Nat → Nat} : ∀ {f k p j : Nat}, pickF pl f k p = some j → k ≤ j ∧ j < k + f ∧ 0 < pl j
  | 0, k, p, j, h => by simp [pickF] at h
  | f + 1, k, p, j, h => by
    simp only [pickF] at h
    split at h
    · cases h
      omega
    · have h2 := pickF_some h
      omega
/-- a player: gold, level, health, streak, locked, shop, bench, board -/
abbrev plT : Type := Nat × Nat × Nat × Int32 × Bool × (Nat → Option Nat) × List Nat × List Nat
abbrev pGold (x : plT) : Nat := x.1
abbrev pLev (x : plT) : Nat := x.2.1
abbrev pHth (x : plT) : Nat := x.2.2.1
abbrev pStk (x : plT) : Int32 := x.2.2.2.1
abbrev pLck (x : plT) : Bool := x.2.2.2.2.1
abbrev pShp (x : plT) : Nat → Option Nat := x.2.2.2.2.2.1
abbrev pBen (x : plT) : List Nat := x.2.2.2.2.2.2.1
abbrev pBrd (x : plT) : List Nat := x.2.2.2.2.2.2.2
def shI : Option Nat → Int32
  | none => -1
  | some k => nI k
def bI (b : Bool) : Int32 := if b then nI 1 else nI 0
def plIs (s : sgT) (P : Nat) (x : plT) : Prop := s P 0 = nI (pGold x) ∧ s P 1 = nI (pLev x) ∧ s P 2 = nI (pHth x) ∧ s P 3 = pStk x ∧ s P 4 = bI (pLck x) ∧ (∀ j, j < 3 → s (P + 1) j = shI (pShp x j)) ∧ rowIs s (P + 2) (pBen x) ∧ rowIs s (P + 5) (pBrd x)
def shOk (sh : Nat → Option Nat) : Prop := ∀ j, j < 3 → ∀ k, sh j = some k → k < 9
def plOk (x : plT) : Prop := pGold x ≤ 100 ∧ 1 ≤ pLev x ∧ pLev x ≤ 5 ∧ pHth x ≤ 20 ∧ shOk (pShp x) ∧ okR (pBen x) ∧ okR (pBrd x) ∧ (pBen x).length ≤ 6 ∧ (pBrd x).length ≤ pLev x
def stkB (x : Int32) : Nat := if nI 1 < x ∨ ¬ -1 ≤ x then 1 else 0
def stkW (x : Int32) : Int32 := if x ≤ 0 then nI 1 else x + nI 1
def stkL (x : Int32) : Int32 := if 0 ≤ x then -1 else x - nI 1
def earnG (g : Nat) (b : Nat) : Nat := min 100 (g + (3 + min 3 (g / 10) + b))
/-- the kinds held in a shop -/
def shpN (sh : Nat → Option Nat) (k : Nat) : Nat → Nat
  | 0 => 0
  | j + 1 => shpN sh k j + if sh j = some k then 1 else 0
/-- merging: board and bench -/
abbrev bbT : Type := List Nat × List Nat
def repU (b : bbT) (u : Nat) : bbT := if u ∈ b.1 then (b.1.set (b.1.idxOf u) (u + 1), b.2) else (b.1, b.2.set (b.2.idxOf u) (u + 1))
def eraU (b : bbT) (u : Nat) : bbT := if u ∈ b.1 then (b.1.eraseIdx (b.1.idxOf u), b.2) else (b.1, b.2.eraseIdx (b.2.idxOf u))
def merU (b : bbT) (u : Nat) : bbT := eraU (eraU (repU b u) u) u
def uJ (j : Nat) : Nat := 10 * (j / 2) + 1 + j % 2
def cntU (b : bbT) (u : Nat) : Nat := b.1.count u + b.2.count u
def fstJ (b : bbT) : Nat → Nat → Option Nat
  | 0, _ => none
  | f + 1, j => if 3 ≤ cntU b (uJ j) then some (uJ j) else fstJ b f (j + 1)
def fstU (b : bbT) : Option Nat := fstJ b 18 0
def merI : Nat → bbT → bbT
  | 0, b => b
  | n + 1, b => match fstU b with
    | none => b
    | some u => merI n (merU b u)
theorem minI {x y : Nat} (hx : x < 2 ^ 31) (hy : y < 2 ^ 31) : (if nI y < nI x then nI y else nI x) = nI (min x y) := by
  by_cases h : y < x
  · rw [if_pos ((nI_ltI hy hx).mpr h)]
    exact congrArg nI (by omega)
  · rw [if_neg (fun e => h ((nI_ltI hy hx).mp e))]
    exact congrArg nI (by omega)
theorem uJ_ok {j : Nat} (h : j < 18) : okU (uJ j) ∧ uJ j % 10 < 3 := by
  unfold okU uJ
  omega
theorem fstJ_some {b : bbT} : ∀ {f j u : Nat}, fstJ b f j = some u → ∃ i, j ≤ i ∧ i < j + f ∧ u = uJ i ∧ 3 ≤ cntU b u
  | 0, j, u, h => by simp [fstJ] at h
  | f + 1, j, u, h => by
    simp only [fstJ] at h
    split at h
    · rename_i hc
      cases h
      exact ⟨j, Nat.le_refl _, by omega, rfl, hc⟩
    · obtain ⟨i, h1, h2, h3⟩ := fstJ_some h
      exact ⟨i, by omega, by omega, h3⟩
theorem count_set {l : List Nat} {u v : Nat} (h : u ∈ l) (hne : v ≠ u) : (l.set (l.idxOf u) v).count u + 1 = l.count u := by
  induction l with
  | nil => cases h
  | cons a l ih =>
    by_cases e : a = u
    · subst e
      simp [List.idxOf_cons, List.count_cons, hne]
    · have hm : u ∈ l := by
        rcases List.mem_cons.mp h with q | q
        · exact absurd q.symm e
        · exact q
      have ih' := ih hm
      have e1 : (a :: l).idxOf u = l.idxOf u + 1 := by rw [List.idxOf_cons, show (a == u) = false by simp [e]]; rfl
      rw [e1, List.set_cons_succ, List.count_cons, List.count_cons]
      simp [e]
      exact ih'
theorem count_era {l : List Nat} {u : Nat} (h : u ∈ l) : (l.eraseIdx (l.idxOf u)).count u + 1 = l.count u ∧ (l.eraseIdx (l.idxOf u)).length + 1 = l.length := by
  induction l with
  | nil => cases h
  | cons a l ih =>
    by_cases e : a = u
    · subst e
      simp [List.idxOf_cons, List.count_cons]
    · have hm : u ∈ l := by
        rcases List.mem_cons.mp h with q | q
        · exact absurd q.symm e
        · exact q
      have ih' := ih hm
      have e1 : (a :: l).idxOf u = l.idxOf u + 1 := by rw [List.idxOf_cons, show (a == u) = false by simp [e]]; rfl
      rw [e1, List.eraseIdx_cons_succ, List.count_cons, List.count_cons]
      simp [e]
      omega
theorem cnt_pos {b : bbT} {u : Nat} (h : 0 < cntU b u) (hn : u ∉ b.1) : u ∈ b.2 := by
  unfold cntU at h
  rw [List.count_eq_zero_of_not_mem hn] at h
  exact List.count_pos_iff.mp (by omega)
theorem cnt_rep {b : bbT} {u : Nat} (h : 0 < cntU b u) : cntU (repU b u) u + 1 = cntU b u ∧ (repU b u).1.length = b.1.length ∧ (repU b u).2.length = b.2.length := by
  unfold repU
  split
  · rename_i hm
    have h9 := count_set (v := u + 1) hm (by omega)
    refine ⟨?_, by simp, rfl⟩
    show (b.1.set _ _).count u + b.2.count u + 1 = b.1.count u + b.2.count u
    omega
  · rename_i hm
    have h9 := count_set (v := u + 1) (cnt_pos h hm) (by omega)
    refine ⟨?_, rfl, by simp⟩
    show b.1.count u + (b.2.set _ _).count u + 1 = b.1.count u + b.2.count u
    omega
theorem cnt_era {b : bbT} {u : Nat} (h : 0 < cntU b u) : cntU (eraU b u) u + 1 = cntU b u ∧ (eraU b u).1.length + (eraU b u).2.length + 1 = b.1.length + b.2.length ∧ (eraU b u).1.length ≤ b.1.length ∧ (eraU b u).2.length ≤ b.2.length := by
  unfold eraU
  split
  · rename_i hm
    have := count_era hm
    simp only [cntU] at *
    omega
  · rename_i hm
    have := count_era (cnt_pos h hm)
    simp only [cntU] at *
    omega
theorem mem_set {l : List Nat} {i v w : Nat} (h : w ∈ l.set i v) : w ∈ l ∨ w = v := List.mem_or_eq_of_mem_set h
theorem ok_rep {b : bbT} {u : Nat} (h1 : okR b.1) (h2 : okR b.2) (hu : okU (u + 1)) : okR (repU b u).1 ∧ okR (repU b u).2 := by
  rw [okR_mem] at h1 h2
  rw [okR_mem, okR_mem]
  unfold repU
  split
  · exact ⟨fun w hw => (mem_set hw).elim (h1 w) (fun e => e ▸ hu), h2⟩
  · exact ⟨h1, fun w hw => (mem_set hw).elim (h2 w) (fun e => e ▸ hu)⟩
theorem ok_era {b : bbT} {u : Nat} (h1 : okR b.1) (h2 : okR b.2) : okR (eraU b u).1 ∧ okR (eraU b u).2 := by
  rw [okR_mem] at h1 h2
  rw [okR_mem, okR_mem]
  unfold eraU
  split
  · exact ⟨fun w hw => h1 w (List.mem_of_mem_eraseIdx hw), h2⟩
  · exact ⟨h1, fun w hw => h2 w (List.mem_of_mem_eraseIdx hw)⟩
theorem mer_ok {b : bbT} {u : Nat} (h1 : okR b.1) (h2 : okR b.2) (hu : okU (u + 1)) (hc : 3 ≤ cntU b u) : okR (merU b u).1 ∧ okR (merU b u).2 ∧ (merU b u).1.length + (merU b u).2.length + 2 = b.1.length + b.2.length ∧ (merU b u).1.length ≤ b.1.length ∧ (merU b u).2.length ≤ b.2.length := by
  unfold merU
  obtain ⟨a1, a2, a3⟩ := cnt_rep (b := b) (u := u) (by omega)
  obtain ⟨b1, b2, b3, b4⟩ := cnt_era (b := repU b u) (u := u) (by omega)
  obtain ⟨c1, c2, c3, c4⟩ := cnt_era (b := eraU (repU b u) u) (u := u) (by omega)
  obtain ⟨d1, d2⟩ := ok_rep h1 h2 hu
  obtain ⟨e1, e2⟩ := ok_era (u := u) d1 d2
  obtain ⟨f1, f2⟩ := ok_era (u := u) e1 e2
  exact ⟨f1, f2, by omega, by omega, by omega⟩
theorem uJ_succ {j : Nat} (h : j < 18) : okU (uJ j + 1) := by
  unfold okU uJ
  omega
theorem mer_fst {b : bbT} {u : Nat} (h : fstU b = some u) : okU u ∧ okU (u + 1) ∧ 3 ≤ cntU b u := by
  obtain ⟨i, -, hi, rfl, hc⟩ := fstJ_some h
  exact ⟨(uJ_ok (by omega)).1, uJ_succ (by omega), hc⟩
theorem merI_ok : ∀ {n : Nat} {b : bbT}, okR b.1 → okR b.2 → okR (merI n b).1 ∧ okR (merI n b).2 ∧ (merI n b).1.length ≤ b.1.length ∧ (merI n b).2.length ≤ b.2.length
  | 0, b, h1, h2 => ⟨h1, h2, Nat.le_refl _, Nat.le_refl _⟩
  | n + 1, b, h1, h2 => by
    simp only [merI]
    split
    · exact ⟨h1, h2, Nat.le_refl _, Nat.le_refl _⟩
    · rename_i u hu
      obtain ⟨g1, g2, g3⟩ := mer_fst hu
      obtain ⟨m1, m2, m3, m4, m5⟩ := mer_ok h1 h2 g2 g3
      obtain ⟨r1, r2, r3, r4⟩ := merI_ok (n := n) m1 m2
      exact ⟨r1, r2, by omega, by omega⟩
/-- fewer locals known -/
def lSub : List (Option Value) → List (Option Value) → Prop
  | [], [] => True
  | none :: l, _ :: l' => lSub l l'
  | some v :: l, some w :: l' => v = w ∧ lSub l l'
  | _, _ => False
theorem lSub_get : ∀ {L' L : List (Option Value)}, lSub L' L → ∀ (i : Nat) (v : Value), L'[i]? = some (some v) → L[i]? = some (some v)
  | [], [], _, i, v, hi => by simp at hi
  | none :: l, w :: l', h, i, v, hi => by
    cases i with
    | zero => simp at hi
    | succ i => exact lSub_get (L' := l) (L := l') (by simpa [lSub] using h) i v (by simpa using hi)
  | some a :: l, some b :: l', h, i, v, hi => by
    obtain ⟨rfl, h2⟩ : a = b ∧ lSub l l' := h
    cases i with
    | zero => simpa using hi
    | succ i => exact lSub_get h2 i v (by simpa using hi)
  | some a :: l, none :: l', h, _, _, _ => (show False from h).elim
  | some a :: l, [], h, _, _, _ => (show False from h).elim
  | none :: l, [], h, _, _, _ => (show False from h).elim
  | [], w :: l', h, _, _, _ => (show False from h).elim
theorem rForget {G : gG} {M : mT} {cc : ByteArray} {rm : Room} {QF : Array Value → State → List Frame → State → Prop} {pc : Nat} {L L' : List (Option Value)} {st : List Value} {ws : va_W} {cells slots : Nat} (h : lSub L' L) (kk : RW G M cc rm QF pc L' st ws cells slots) : RW G M cc rm QF pc L st ws cells slots := by
  intro p e s m args below meth c H locs ls hF hP hD hS hL
  exact kk p e s m args below meth c H locs ls hF hP hD hS ⟨hL.1, hL.2.1, fun i v hi => hL.2.2 i v (lSub_get h i v hi)⟩
theorem plIs_P {s s' : sgT} {P : Nat} {x : plT} (h : plIs s P x) (hb : ∀ b, b ≠ P → s' b = s b) {g l hh : Nat} {k : Int32} {c : Bool} (e0 : s' P 0 = nI g) (e1 : s' P 1 = nI l) (e2 : s' P 2 = nI hh) (e3 : s' P 3 = k) (e4 : s' P 4 = bI c) : plIs s' P (g, l, hh, k, c, pShp x, pBen x, pBrd x) :=
  ⟨e0, e1, e2, e3, e4, fun j hj => by rw [hb _ (by omega)]; exact h.2.2.2.2.2.1 j hj, rowIs_keep h.2.2.2.2.2.2.1 (hb _ (by omega)) (hb _ (by omega)) (hb _ (by omega)), rowIs_keep h.2.2.2.2.2.2.2 (hb _ (by omega)) (hb _ (by omega)) (hb _ (by omega))⟩
theorem plIs_keep {s s' : sgT} {P : Nat} {x : plT} (h : plIs s P x) (hb : ∀ b, P ≤ b → b < P + 8 → s' b = s b) : plIs s' P x :=
  ⟨by rw [hb _ (by omega) (by omega)]; exact h.1, by rw [hb _ (by omega) (by omega)]; exact h.2.1, by rw [hb _ (by omega) (by omega)]; exact h.2.2.1, by rw [hb _ (by omega) (by omega)]; exact h.2.2.2.1, by rw [hb _ (by omega) (by omega)]; exact h.2.2.2.2.1, fun j hj => by rw [hb _ (by omega) (by omega)]; exact h.2.2.2.2.2.1 j hj, rowIs_keep h.2.2.2.2.2.2.1 (hb _ (by omega) (by omega)) (hb _ (by omega) (by omega)) (hb _ (by omega) (by omega)), rowIs_keep h.2.2.2.2.2.2.2 (hb _ (by omega) (by omega)) (hb _ (by omega) (by omega)) (hb _ (by omega) (by omega))⟩
theorem shI_eq {o : Option Nat} {k : Nat} (ho : ∀ j, o = some j → j < 9) (hk : k < 2 ^ 31) : shI o = nI k ↔ o = some k := by
  cases o with
  | none =>
    constructor
    · intro e
      have h1 : (nI k).toInt = (k : Int) := nI_toInt hk
      rw [← e] at h1
      have h2 : (shI none).toInt = -1 := by decide
      omega
    · intro e
      cases e
  | some j =>
    have hj := ho j rfl
    show nI j = nI k ↔ _
    rw [nI_eq (by omega) hk]
    constructor
    · rintro rfl
      rfl
    · intro e
      cases e
      rfl
theorem nI_m1 {n : Nat} (h : n < 2 ^ 31) : ¬ nI n = -1 := by
  intro e
  have h1 : (nI n).toInt = (n : Int) := nI_toInt h
  rw [e] at h1
  have h2 : (-1 : Int32).toInt = -1 := by decide
  omega
theorem idx_lt {l : List Nat} {u : Nat} (h : u ∈ l) : l.idxOf u < l.length ∧ l.getD (l.idxOf u) 0 = u := by
  have h1 : l.idxOf u < l.length := List.idxOf_lt_length_of_mem h
  refine ⟨h1, ?_⟩
  rw [List.getD_eq_getElem?_getD, List.getElem?_eq_getElem h1]
  exact List.getElem_idxOf h1
def eraN (u : Nat) : Nat → bbT → bbT
  | 0, b => b
  | n + 1, b => eraU (eraN u n b) u
/-- the rows of a player, board and bench, and nothing else than these moved -/
def bbIs (s : sgT) (P : Nat) (b : bbT) : Prop := rowIs s (P + 5) b.1 ∧ rowIs s (P + 2) b.2
def bbFr (s s' : sgT) (P : Nat) : Prop := ∀ a, (a < P + 2 ∨ P + 8 ≤ a) → s' a = s a
def bbOk (b : bbT) : Prop := okR b.1 ∧ okR b.2 ∧ b.1.length ≤ 5 ∧ b.2.length ≤ 6
theorem merI_none {b : bbT} (h : fstU b = none) : ∀ n, merI n b = b
  | 0 => rfl
  | n + 1 => by simp only [merI, h]
theorem merI_some {b : bbT} {u n : Nat} (h : fstU b = some u) : merI (n + 1) b = merI n (merU b u) := by simp only [merI, h]
theorem set_get {l : List Nat} {p u i : Nat} (hp : p < l.length) : (l.set p u).getD i 0 = if i = p then u else l.getD i 0 := by
  simp only [List.getD_eq_getElem?_getD, List.getElem?_set]
  by_cases e : i = p
  · subst e
    simp [hp]
  · rw [if_neg (fun z => e z.symm), if_neg e]
