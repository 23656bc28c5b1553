/-! fights: a side's healths and turns, blows, the record -/
def sideIs (s : sgT) (d n : Nat) (h g : Nat → Int32) (t : Nat) : Prop := n ≤ 5 ∧ s d 2 = nI n ∧ (∃ tc : Nat, tc ≤ 5 ∧ s d 3 = nI tc ∧ (0 < n → tc % n = t)) ∧ ∀ i, i < n → s (d + 1) i = h i ∧ s (d + 2) i = g i
def livN (h : Nat → Int32) : Nat → Nat
  | 0 => 0
  | i + 1 => livN h i + if h i ≤ 0 then 0 else 1
def flN (h : Nat → Int32) : Nat → Nat → Option Nat
  | 0, _ => none
  | f + 1, i => if h i ≤ 0 then flN h f (i + 1) else some i
def ttN (h : Nat → Int32) (n t : Nat) : Nat → Nat → Option Nat
  | 0, _ => none
  | f + 1, j => if h ((t + j) % n) ≤ 0 then ttN h n t f (j + 1) else some ((t + j) % n)
abbrev zT : Type := (Nat → Int32) × Nat × (Nat → Int32) × Nat
def blowS (n0 n1 : Nat) (g0 g1 : Nat → Int32) (k : Nat) (z : zT) : Option (zT × Nat × Int32) :=
  if k % 2 = 0 then
    match ttN z.1 n0 z.2.1 n0 0, flN z.2.2.1 n1 0 with
    | some a, some b => some ((z.1, (a + 1) % n0, upd z.2.2.1 b (z.2.2.1 b - g0 a), z.2.2.2), b, g0 a)
    | _, _ => none
  else
    match ttN z.2.2.1 n1 z.2.2.2 n1 0, flN z.1 n0 0 with
    | some a, some b => some ((upd z.1 b (z.1 b - g1 a), z.2.1, z.2.2.1, (a + 1) % n1), b, g1 a)
    | _, _ => none
def fightN (n0 n1 : Nat) (g0 g1 : Nat → Int32) : Nat → Nat → zT → zT
  | 0, _, z => z
  | f + 1, k, z => match blowS n0 n1 g0 g1 k z with
    | none => z
    | some (z', _) => fightN n0 n1 g0 g1 f (k + 1) z'
def recF (n0 n1 : Nat) (g0 g1 : Nat → Int32) : Nat → Nat → zT → List (Nat × Int32)
  | 0, _, _ => []
  | f + 1, k, z => match blowS n0 n1 g0 g1 k z with
    | none => []
    | some (z', bx) => bx :: recF n0 n1 g0 g1 f (k + 1) z'
def rdI (R : List (Nat × Int32)) (h0 h1 : Nat → Int32) : Nat → (Nat → Int32) × (Nat → Int32)
  | 0 => (h0, h1)
  | k + 1 => if k % 2 = 0 then ((rdI R h0 h1 k).1, upd (rdI R h0 h1 k).2 (R.getD k (0, 0)).1 ((rdI R h0 h1 k).2 (R.getD k (0, 0)).1 - (R.getD k (0, 0)).2)) else (upd (rdI R h0 h1 k).1 (R.getD k (0, 0)).1 ((rdI R h0 h1 k).1 (R.getD k (0, 0)).1 - (R.getD k (0, 0)).2), (rdI R h0 h1 k).2)
theorem flN_some {h : Nat → Int32} : ∀ {f i b : Nat}, flN h f i = some b → i ≤ b ∧ b < i + f ∧ ¬ h b ≤ 0
  | 0, i, b, e => by simp [flN] at e
  | f + 1, i, b, e => by
    simp only [flN] at e
    split at e
    · have := flN_some e
      exact ⟨by omega, by omega, this.2.2⟩
    · rename_i hc
      cases e
      exact ⟨Nat.le_refl _, by omega, hc⟩
theorem ttN_some {h : Nat → Int32} {n t : Nat} : ∀ {f j a : Nat}, ttN h n t f j = some a → (0 < n → a < n) ∧ ¬ h a ≤ 0
  | 0, j, a, e => by simp [ttN] at e
  | f + 1, j, a, e => by
    simp only [ttN] at e
    split at e
    · exact ttN_some e
    · rename_i hc
      cases e
      exact ⟨fun h0 => Nat.mod_lt _ h0, hc⟩
theorem ttN_zero {h : Nat → Int32} {t : Nat} : ttN h 0 t 0 0 = none := rfl
theorem ttN_mod {h : Nat → Int32} {n t t' : Nat} (e : t % n = t' % n) : ∀ f j, ttN h n t f j = ttN h n t' f j
  | 0, _ => rfl
  | f + 1, j => by
    have e2 : (t + j) % n = (t' + j) % n := by rw [Nat.add_mod, e, ← Nat.add_mod]
    simp only [ttN, e2, ttN_mod e f (j + 1)]
theorem blowS_in {n0 n1 : Nat} {g0 g1 : Nat → Int32} {k : Nat} {z z' : zT} {b : Nat} {x : Int32} (e : blowS n0 n1 g0 g1 k z = some (z', b, x)) : (k % 2 = 0 → b < n1) ∧ (¬ k % 2 = 0 → b < n0) := by
  unfold blowS at e
  split at e
  · rename_i hk
    split at e
    · rename_i a c ha hc
      cases e
      have := flN_some hc
      exact ⟨fun _ => by omega, fun h => absurd hk h⟩
    · cases e
  · rename_i hk
    split at e
    · rename_i a c ha hc
      cases e
      have := flN_some hc
      exact ⟨fun h => absurd h hk, fun _ => by omega⟩
    · cases e
theorem recF_le {n0 n1 : Nat} {g0 g1 : Nat → Int32} : ∀ {f k : Nat} {z : zT}, (recF n0 n1 g0 g1 f k z).length ≤ f
  | 0, _, _ => Nat.le_refl _
  | f + 1, k, z => by
    simp only [recF]
    split
    · simp
    · simp only [List.length_cons]
      have := recF_le (n0 := n0) (n1 := n1) (g0 := g0) (g1 := g1) (f := f) (k := k + 1) (z := by assumption)
      omega
/-- the targets of a record lie on the boards -/
theorem recF_in {n0 n1 : Nat} {g0 g1 : Nat → Int32} : ∀ {f k : Nat} {z : zT} {j : Nat}, j < (recF n0 n1 g0 g1 f k z).length → ((k + j) % 2 = 0 → ((recF n0 n1 g0 g1 f k z).getD j (0, 0)).1 < n1) ∧ (¬ (k + j) % 2 = 0 → ((recF n0 n1 g0 g1 f k z).getD j (0, 0)).1 < n0)
  | 0, _, _, j, hj => absurd hj (Nat.not_lt_zero _)
  | f + 1, k, z, j, hj => by
    simp only [recF] at hj ⊢
    split at hj
    · exact absurd hj (Nat.not_lt_zero _)
    · rename_i z' bx e
      obtain ⟨b, x⟩ := bx
      cases j with
      | zero => exact blowS_in e
      | succ j =>
        have h2 := recF_in (n0 := n0) (n1 := n1) (g0 := g0) (g1 := g1) (f := f) (k := k + 1) (z := z') (j := j) (by simpa using hj)
        rw [show k + (j + 1) = k + 1 + j by omega]
        exact h2
theorem getD_app {α : Type} {l r : List α} {d : α} {k : Nat} (h : l.length = k) {x : α} {r' : List α} (hr : r = x :: r') : (l ++ r).getD k d = x := by
  subst hr
  subst h
  simp [List.getD_eq_getElem?_getD]
/-- the record, redone, gives what the fight gave -/
theorem redo_all {n0 n1 : Nat} {g0 g1 h0 h1 : Nat → Int32} {R : List (Nat × Int32)} : ∀ (f k : Nat) (z : zT) (pre : List (Nat × Int32)), pre.length = k → R = pre ++ recF n0 n1 g0 g1 f k z → rdI R h0 h1 k = (z.1, z.2.2.1) → rdI R h0 h1 R.length = ((fightN n0 n1 g0 g1 f k z).1, (fightN n0 n1 g0 g1 f k z).2.2.1)
  | 0, k, z, pre, hp, hR, hz => by
    have e : R.length = k := by rw [hR]; simp [recF, hp]
    rw [e]
    exact hz
  | f + 1, k, z, pre, hp, hR, hz => by
    simp only [recF, fightN] at hR ⊢
    cases e : blowS n0 n1 g0 g1 k z with
    | none =>
      rw [e] at hR
      have e2 : R.length = k := by rw [hR]; simp [hp]
      rw [e2]
      exact hz
    | some w =>
      obtain ⟨z', b, x⟩ := w
      rw [e] at hR
      refine redo_all f (k + 1) z' (pre ++ [(b, x)]) (by simp [hp]) (by rw [hR]; simp) ?_
      have hg : R.getD k (0, 0) = (b, x) := by rw [hR]; exact getD_app hp rfl
      simp only [rdI, hg, hz]
      unfold blowS at e
      split at e
      · rename_i hk
        rw [if_pos hk]
        split at e
        · cases e
          rfl
        · cases e
      · rename_i hk
        rw [if_neg hk]
        split at e
        · cases e
          rfl
        · cases e
theorem livN_zero {h : Nat → Int32} : ∀ {n : Nat}, livN h n = 0 ↔ ∀ i, i < n → h i ≤ 0
  | 0 => ⟨fun _ i hi => absurd hi (Nat.not_lt_zero _), fun _ => rfl⟩
  | n + 1 => by
    simp only [livN]
    constructor
    · intro e i hi
      have h1 : livN h n = 0 := by omega
      rcases Nat.lt_or_ge i n with q | q
      · exact livN_zero.mp h1 i q
      · have : i = n := by omega
        subst this
        by_cases hc : h i ≤ 0
        · exact hc
        · rw [if_neg hc] at e
          omega
    · intro hh
      rw [livN_zero.mpr (fun i hi => hh i (by omega)), if_pos (hh n (by omega))]
theorem livN_le {h : Nat → Int32} : ∀ n, livN h n ≤ n
  | 0 => Nat.le_refl _
  | n + 1 => by
    have := livN_le (h := h) n
    simp only [livN]
    split <;> omega
theorem flN_none {h : Nat → Int32} : ∀ {f i : Nat}, flN h f i = none ↔ ∀ j, i ≤ j → j < i + f → h j ≤ 0
  | 0, i => ⟨fun _ j h1 h2 => absurd h2 (by omega), fun _ => rfl⟩
  | f + 1, i => by
    simp only [flN]
    constructor
    · intro e j h1 h2
      split at e
      · rename_i hc
        rcases Nat.lt_or_ge i j with q | q
        · exact flN_none.mp e j (by omega) (by omega)
        · have : j = i := by omega
          exact this ▸ hc
      · cases e
    · intro hh
      rw [if_pos (hh i (Nat.le_refl _) (by omega))]
      exact flN_none.mpr (fun j h1 h2 => hh j (by omega) (by omega))
theorem ttN_none {h : Nat → Int32} {n t : Nat} : ∀ {f j : Nat}, ttN h n t f j = none ↔ ∀ i, j ≤ i → i < j + f → h ((t + i) % n) ≤ 0
  | 0, j => ⟨fun _ i h1 h2 => absurd h2 (by omega), fun _ => rfl⟩
  | f + 1, j => by
    simp only [ttN]
    constructor
    · intro e i h1 h2
      split at e
      · rename_i hc
        rcases Nat.lt_or_ge j i with q | q
        · exact ttN_none.mp e i (by omega) (by omega)
        · have : i = j := by omega
          exact this ▸ hc
      · cases e
    · intro hh
      rw [if_pos (hh j (Nat.le_refl _) (by omega))]
      exact ttN_none.mpr (fun i h1 h2 => hh i (by omega) (by omega))
theorem flN_liv {h : Nat → Int32} {n : Nat} : flN h n 0 = none ↔ livN h n = 0 := by
  rw [flN_none, livN_zero]
  exact ⟨fun e i hi => e i (Nat.zero_le _) (by omega), fun e j _ hj => e j (by omega)⟩
theorem ttN_liv {h : Nat → Int32} {n t : Nat} : ttN h n t n 0 = none ↔ livN h n = 0 := by
  rw [ttN_none, livN_zero]
  constructor
  · intro e i hi
    have h0 : 0 < n := by omega
    have ht := Nat.mod_lt t h0
    have h1 := e ((n + i - t % n) % n) (Nat.zero_le _) (by have := Nat.mod_lt (n + i - t % n) h0; omega)
    have h2 : (t + (n + i - t % n) % n) % n = i := by
      rw [Nat.add_mod_mod, Nat.add_mod, ← Nat.add_mod (t)]
      have h3 : t = n * (t / n) + t % n := (Nat.div_add_mod t n).symm
      have h4 : t + (n + i - t % n) = n * (t / n) + (n + i) := by omega
      rw [h4, Nat.mul_add_mod, Nat.add_mod_left, Nat.mod_eq_of_lt hi]
    rw [h2] at h1
    exact h1
  · intro e j _ hj
    exact e _ (Nat.mod_lt _ (by omega))
/-- how the sides stand at a fight's start -/
def z0F (l0 l1 : List Nat) : zT := (fun i => nI (hthN (l0.getD i 0)), 0, fun i => nI (hthN (l1.getD i 0)), 0)
def gF (l : List Nat) : Nat → Int32 := fun i => nI (strN l (l.getD i 0))
def endF (l0 l1 : List Nat) : zT := fightN l0.length l1.length (gF l0) (gF l1) 60 0 (z0F l0 l1)
def logF (l0 l1 : List Nat) : List (Nat × Int32) := recF l0.length l1.length (gF l0) (gF l1) 60 0 (z0F l0 l1)
/-- living units behind it: of the first side, of the second -/
def livA (l0 l1 : List Nat) : Nat := livN (endF l0 l1).1 l0.length
def livB (l0 l1 : List Nat) : Nat := livN (endF l0 l1).2.2.1 l1.length
theorem livN_cong {h h' : Nat → Int32} : ∀ {n : Nat}, (∀ i, i < n → h i = h' i) → livN h n = livN h' n
  | 0, _ => rfl
  | n + 1, e => by
    simp only [livN, livN_cong (fun i hi => e i (Nat.lt_succ_of_lt hi)), e n (Nat.lt_succ_self n)]
