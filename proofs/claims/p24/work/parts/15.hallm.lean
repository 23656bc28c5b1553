/-! the hall as a value: numbers left, pool, players, rounds -/
theorem gs_P : Cond.fieldLink RX6 148 RX6 "PAIRS" "[I" ∈ gWds := gMem (i := 435) (by decide +kernel) (by rfl)
abbrev hT : Type := List Nat × (Nat → Nat) × (Nat → plT) × Nat
abbrev hQ (h : hT) : List Nat := h.1
abbrev hP (h : hT) : Nat → Nat := h.2.1
abbrev hY (h : hT) : Nat → plT := h.2.2.1
abbrev hR (h : hT) : Nat := h.2.2.2
def hallIs (s : sgT) (o : Nat) (h : hT) : Prop := numsIs s (o + 4) (hQ h) ∧ poolIs s (o + 2 + 1) (hP h) ∧ (∀ p, p < 4 → plIs s (o + 15 + 8 * p) (hY h p)) ∧ s o 4 = nI (hR h)
def hallOk (B : Nat) (h : hT) : Prop := (∀ x ∈ hQ h, x ≤ 1000) ∧ poolOk B (hP h) ∧ (∀ p, p < 4 → plOk (hY h p)) ∧ hR h ≤ 200
def hFr (s s' : sgT) (o : Nat) : Prop := ∀ b, b < o ∨ o + 47 ≤ b → s' b = s b
def setY (h : hT) (p : Nat) (x : plT) : hT := (hQ h, hP h, fun i => if i = p then x else hY h i, hR h)
abbrev rT : Type := Nat × Int32 × hT
def hPost (o : Nat) (s : sgT) (r : rT) (v : Int32) (s' : sgT) : Prop := r.1 = 0 ∧ v = r.2.1 ∧ hallIs s' o r.2.2 ∧ hFr s s' o
def hExc (xs : List String) (h : hT) (r : rT) (E : String) : Prop := r.2.2 = h ∧ ∃ k, r.1 = k + 1 ∧ xs[k]? = some E
def idx (n : Nat) (x : Int32) : Option Nat := if x < 0 then none else if x.toNatClampNeg < n then some x.toNatClampNeg else none
def wG (x : plT) (g : Nat) : plT := (g, x.2)
def wL (x : plT) (l : Nat) : plT := (x.1, l, x.2.2)
def wK (x : plT) (k : Int32) : plT := (x.1, x.2.1, x.2.2.1, k, x.2.2.2.2)
def wC (x : plT) (c : Bool) : plT := (x.1, x.2.1, x.2.2.1, x.2.2.2.1, c, x.2.2.2.2.2)
def wS1 (x : plT) (sh : Nat → Option Nat) : plT := (x.1, x.2.1, x.2.2.1, x.2.2.2.1, x.2.2.2.2.1, sh, x.2.2.2.2.2.2)
def wB (x : plT) (b : bbT) : plT := (x.1, x.2.1, x.2.2.1, x.2.2.2.1, x.2.2.2.2.1, x.2.2.2.2.2.1, b.2, b.1)
def fill1 (pl : Nat → Nat) (sh : Nat → Option Nat) : Nat → Nat → Nat
  | 0 => pl
  | j + 1 => match sh j with
    | none => fill1 pl sh j
    | some k => incP (fill1 pl sh j) k 1
abbrev fzT : Type := List Nat × (Nat → Nat) × (Nat → Option Nat)
def fillS (q : List Nat) (pl : Nat → Nat) (sh : Nat → Option Nat) (lev : Nat) : Nat → fzT
  | 0 => (q, fill1 pl sh 3, sh)
  | j + 1 => ((fillS q pl sh lev j).1.tail, decP (fillS q pl sh lev j).2.1 (drawR (fillS q pl sh lev j).2.1 ((fillS q pl sh lev j).1.headD 0) (lev + 1)), fun i => if i = j then drawR (fillS q pl sh lev j).2.1 ((fillS q pl sh lev j).1.headD 0) (lev + 1) else (fillS q pl sh lev j).2.2 i)
def fillH (h : hT) (p : Nat) : hT := ((fillS (hQ h) (hP h) (pShp (hY h p)) (pLev (hY h p)) 3).1, (fillS (hQ h) (hP h) (pShp (hY h p)) (pLev (hY h p)) 3).2.1, (setY h p (wS1 (hY h p) (fillS (hQ h) (hP h) (pShp (hY h p)) (pLev (hY h p)) 3).2.2)).2.2)
/-- the calls -/
def fTell (h : hT) (x : Int32) : rT := match idx 1001 x with
  | none => (1, 0, h)
  | some n => if (hQ h).length = 100 then (2, 0, h) else (0, nI ((hQ h).length + 1), hQ h ++ [n], h.2)
def fRoll (h : hT) (x : Int32) : rT := match idx 4 x with
  | none => (1, 0, h)
  | some p => if pGold (hY h p) < 1 then (2, 0, h) else (0, nI (pGold (hY h p) - 1), (fun h1 => setY h1 p (wC (hY h1 p) false)) (fillH (setY h p (wG (hY h p) (pGold (hY h p) - 1))) p))
def fToggle (h : hT) (x : Int32) : rT := match idx 4 x with
  | none => (1, 0, h)
  | some p => (0, bI (!pLck (hY h p)), setY h p (wC (hY h p) (!pLck (hY h p))))
def fLevel (h : hT) (x : Int32) : rT := match idx 4 x with
  | none => (1, 0, h)
  | some p => if pGold (hY h p) < 4 then (2, 0, h) else if 5 ≤ pLev (hY h p) then (2, 0, h) else (0, nI (pLev (hY h p) + 1), setY h p (wL (wG (hY h p) (pGold (hY h p) - 4)) (pLev (hY h p) + 1)))
def fBuy (h : hT) (x y : Int32) : rT := match idx 4 x with
  | none => (1, 0, h)
  | some p => match idx 3 y with
    | none => (1, 0, h)
    | some j => match pShp (hY h p) j with
      | none => (2, 0, h)
      | some k => if pGold (hY h p) < cst k then (3, 0, h) else if (pBen (hY h p)).length = 6 then (3, 0, h) else
        (0, nI (pGold (hY h p) - cst k), setY h p (wG (wS1 (wB (hY h p) (merI 11 (pBrd (hY h p), pBen (hY h p) ++ [10 * k + 1]))) (fun i => if i = j then none else pShp (hY h p) i)) (pGold (hY h p) - cst k)))
def fSell (h : hT) (x y : Int32) : rT := match idx 4 x with
  | none => (1, 0, h)
  | some p => match idx (pBen (hY h p)).length y with
    | none => (1, 0, h)
    | some i => (fun u : Nat => (0, nI (min 100 (pGold (hY h p) + cst (u / 10) * wor (u % 10))), hQ h, incP (hP h) (u / 10) (wor (u % 10)), (setY h p (wG (wB (hY h p) (pBrd (hY h p), (pBen (hY h p)).eraseIdx i)) (min 100 (pGold (hY h p) + cst (u / 10) * wor (u % 10))))).2.2)) ((pBen (hY h p)).getD i 0)
def fBoard (h : hT) (x y : Int32) : rT := match idx 4 x with
  | none => (1, 0, h)
  | some p => match idx (pBen (hY h p)).length y with
    | none => (1, 0, h)
    | some i => if pLev (hY h p) ≤ (pBrd (hY h p)).length then (2, 0, h) else
      (0, nI ((pBrd (hY h p)).length + 1), setY h p (wB (hY h p) (pBrd (hY h p) ++ [(pBen (hY h p)).getD i 0], (pBen (hY h p)).eraseIdx i)))
def fBench (h : hT) (x y : Int32) : rT := match idx 4 x with
  | none => (1, 0, h)
  | some p => match idx (pBrd (hY h p)).length y with
    | none => (1, 0, h)
    | some i => if (pBen (hY h p)).length = 6 then (2, 0, h) else
      (fun b : bbT => (0, nI b.2.length, setY h p (wB (hY h p) b))) (merI 11 ((pBrd (hY h p)).eraseIdx i, pBen (hY h p) ++ [(pBrd (hY h p)).getD i 0]))
def winY (x : plT) : plT := wK x (stkW (pStk x))
def loseY (x : plT) (d : Nat) : plT := (pGold x, pLev x, pHth x - min d (pHth x), stkL (pStk x), x.2.2.2.2)
def pairH (h : hT) (p q : Nat) : hT :=
  if livB (pBrd (hY h p)) (pBrd (hY h q)) < livA (pBrd (hY h p)) (pBrd (hY h q)) then setY (setY h p (winY (hY h p))) q (loseY (hY h q) (livA (pBrd (hY h p)) (pBrd (hY h q)) - livB (pBrd (hY h p)) (pBrd (hY h q)) + 1))
  else if livA (pBrd (hY h p)) (pBrd (hY h q)) < livB (pBrd (hY h p)) (pBrd (hY h q)) then setY (setY h q (winY (hY h q))) p (loseY (hY h p) (livB (pBrd (hY h p)) (pBrd (hY h q)) - livA (pBrd (hY h p)) (pBrd (hY h q)) + 1))
  else setY (setY h p (wK (hY h p) 0)) q (wK (hY h q) 0)
def fuH (h : hT) : Nat → hT
  | 0 => h
  | i + 1 => (fun h1 => setY h1 i (wC (hY h1 i) false)) (if pLck (hY (fuH h i) i) then fuH h i else fillH (fuH h i) i)
def eaH (h : hT) : Nat → hT
  | 0 => h
  | i + 1 => setY (eaH h i) i (wG (hY (eaH h i) i) (earnG (pGold (hY (eaH h i) i)) (stkB (pStk (hY (eaH h i) i)))))
def aliN (h : hT) : Nat → Nat
  | 0 => 0
  | i + 1 => aliN h i + if pHth (hY h i) = 0 then 0 else 1
def prs (h : hT) (a b c d : Nat) : hT := pairH (pairH h a b) c d
def rdH (h : hT) : hT := if hR h % 3 = 0 then prs h 0 1 2 3 else if hR h % 3 = 1 then prs h 0 2 1 3 else prs h 0 3 1 2
def fRound (h : hT) : rT := if 200 ≤ hR h then (1, 0, h) else (fun h1 : hT => (0, nI (aliN h1 4), hQ h1, hP h1, hY h1, hR h1 + 1)) (fuH (eaH (rdH h) 4) 4)
def fFight (h : hT) (x y : Int32) : rT := match idx 4 x with
  | none => (1, 0, h)
  | some p => match idx 4 y with
    | none => (1, 0, h)
    | some q => if p = q then (2, 0, h) else (0, nI (livA (pBrd (hY h p)) (pBrd (hY h q))) - nI (livB (pBrd (hY h p)) (pBrd (hY h q))), h)
def fAsk (f : plT → Int32) (h : hT) (x : Int32) : rT := match idx 4 x with
  | none => (1, 0, h)
  | some p => (0, f (hY h p), h)
def fAsk2 (n : plT → Nat) (f : plT → Nat → Int32) (h : hT) (x y : Int32) : rT := match idx 4 x with
  | none => (1, 0, h)
  | some p => match idx (n (hY h p)) y with
    | none => (1, 0, h)
    | some j => (0, f (hY h p) j, h)
def fShop : hT → Int32 → Int32 → rT := fAsk2 (fun _ => 3) (fun x j => shI (pShp x j))
def rowU (l : List Nat) (j : Nat) : Int32 := if j < l.length then nI (l.getD j 0) else -1
def fBenA : hT → Int32 → Int32 → rT := fAsk2 (fun _ => 6) (fun x j => rowU (pBen x) j)
def fBrdA : hT → Int32 → Int32 → rT := fAsk2 (fun _ => 5) (fun x j => rowU (pBrd x) j)
def fBlow : hT → Int32 → Int32 → rT := fAsk2 (fun x => (pBrd x).length) (fun x j => nI (strN (pBrd x) ((pBrd x).getD j 0)))
def fPool (h : hT) (x : Int32) : rT := match idx 9 x with
  | none => (1, 0, h)
  | some k => (0, nI (hP h k), h)
def outN (h : hT) (k : Nat) : Nat → Nat
  | 0 => 0
  | i + 1 => outN h k i + (heldN (pBen (hY h i)) k + heldN (pBrd (hY h i)) k + shpN (pShp (hY h i)) k 3)
def fOut (h : hT) (x : Int32) : rT := match idx 9 x with
  | none => (1, 0, h)
  | some k => (0, nI (outN h k 4), h)
/-! rows over them -/
theorem idx_nI {n j : Nat} (h : j < n) (hn : n < 2 ^ 31) : idx n (nI j) = some j := by
  unfold idx
  rw [if_neg (nI_pos (by omega)), nI_clamp (by omega), if_pos h]
theorem idx_no {n j : Nat} (h : n ≤ j) (hj : j < 2 ^ 31) : idx n (nI j) = none := by
  unfold idx
  rw [if_neg (nI_pos (by omega)), nI_clamp hj, if_neg (by omega)]
theorem idx_neg {n : Nat} {x : Int32} (h : x < 0) : idx n x = none := if_pos h
theorem idx_not {n : Nat} {x : Int32} (h : ¬ ∃ i, i < n ∧ x = nI i) : idx n x = none := by
  by_cases c : x < 0
  · exact idx_neg c
  · obtain ⟨j, hj, rfl⟩ := nI_of c
    exact idx_no (Nat.le_of_not_lt (fun q => h ⟨j, q, rfl⟩)) hj
theorem CS.noX {G : gG} {V : wV} {M : mT} {cc : ByteArray} {rm : Room} {vs : List Value} {s : sgT} {lo : Nat → Int64} {f : Option Value → sgT → Prop} {g : String → Prop} (h : CS G V M cc rm vs s lo f g) (hg : ∀ E, ¬ g E) : CS G V M cc rm vs s lo f (fun _ => False) := by
  have e : g = fun _ => False := funext (fun E => eq_false (hg E))
  exact e ▸ h
theorem numsIs_keep {s s' : sgT} {nb : Nat} {q : List Nat} (h : numsIs s nb q) (h0 : s' nb = s nb) (h1 : s' (nb + 1) = s (nb + 1)) : numsIs s' nb q := by
  unfold numsIs at h ⊢
  rw [h0, h1]
  exact h
theorem poolIs_keep {s s' : sgT} {a : Nat} {pl : Nat → Nat} (h : poolIs s a pl) (h0 : s' a = s a) : poolIs s' a pl := by
  unfold poolIs at h ⊢
  rw [h0]
  exact h
theorem hallIs_keep {s s' : sgT} {o : Nat} {h : hT} (hh : hallIs s o h) (hb : ∀ b, o ≤ b → b < o + 6 → s' b = s b) (hb2 : ∀ b, o + 15 ≤ b → b < o + 47 → s' b = s b) : hallIs s' o h :=
  ⟨numsIs_keep hh.1 (hb _ (by omega) (by omega)) (hb _ (by omega) (by omega)), poolIs_keep hh.2.1 (hb _ (by omega) (by omega)), fun p hp => plIs_keep (hh.2.2.1 p hp) (fun b _ _ => hb2 b (by omega) (by omega)), by rw [hb _ (by omega) (by omega)]; exact hh.2.2.2⟩
/-- one player alone has moved -/
theorem hallIs_P {s s' : sgT} {o p : Nat} {h : hT} (hh : hallIs s o h) (hp : p < 4) {x : plT} (hx : plIs s' (o + 15 + 8 * p) x) (hb : ∀ b, b < o + 15 + 8 * p ∨ o + 15 + 8 * p + 8 ≤ b → s' b = s b) : hallIs s' o (setY h p x) := by
  refine ⟨numsIs_keep hh.1 (hb _ (by omega)) (hb _ (by omega)), poolIs_keep hh.2.1 (hb _ (by omega)), fun i hi => ?_, by rw [hb _ (by omega)]; exact hh.2.2.2⟩
  show plIs s' (o + 15 + 8 * i) (if i = p then x else hY h i)
  by_cases e : i = p
  · subst e
    rw [if_pos rfl]
    exact hx
  · rw [if_neg e]
    exact plIs_keep (hh.2.2.1 i hi) (fun b h1 h2 => hb b (by omega))
theorem hFr.refl {s : sgT} {o : Nat} : hFr s s o := fun _ _ => rfl
theorem hFr.trans {s s' s2 : sgT} {o : Nat} (h : hFr s s' o) (h2 : hFr s' s2 o) : hFr s s2 o := fun b hb => by rw [h2 b hb, h b hb]
theorem plIs_wG {s : sgT} {P : Nat} {x : plT} (h : plIs s P x) {g : Nat} : plIs (sw s P 0 (nI g)) P (wG x g) :=
  plIs_P h (fun b hb => sw_a hb) sw_s (by rw [sw_i (by decide)]; exact h.2.1) (by rw [sw_i (by decide)]; exact h.2.2.1) (by rw [sw_i (by decide)]; exact h.2.2.2.1) (by rw [sw_i (by decide)]; exact h.2.2.2.2.1)
theorem plIs_wL {s : sgT} {P : Nat} {x : plT} (h : plIs s P x) {g : Nat} : plIs (sw s P 1 (nI g)) P (wL x g) :=
  plIs_P h (fun b hb => sw_a hb) (by rw [sw_i (by decide)]; exact h.1) sw_s (by rw [sw_i (by decide)]; exact h.2.2.1) (by rw [sw_i (by decide)]; exact h.2.2.2.1) (by rw [sw_i (by decide)]; exact h.2.2.2.2.1)
theorem plIs_wK {s : sgT} {P : Nat} {x : plT} (h : plIs s P x) {k : Int32} : plIs (sw s P 3 k) P (wK x k) :=
  plIs_P h (fun b hb => sw_a hb) (by rw [sw_i (by decide)]; exact h.1) (by rw [sw_i (by decide)]; exact h.2.1) (by rw [sw_i (by decide)]; exact h.2.2.1) sw_s (by rw [sw_i (by decide)]; exact h.2.2.2.2.1)
theorem plIs_wC {s : sgT} {P : Nat} {x : plT} (h : plIs s P x) {c : Bool} {v : Int32} (hv : v = bI c) : plIs (sw s P 4 v) P (wC x c) :=
  plIs_P h (fun b hb => sw_a hb) (by rw [sw_i (by decide)]; exact h.1) (by rw [sw_i (by decide)]; exact h.2.1) (by rw [sw_i (by decide)]; exact h.2.2.1) (by rw [sw_i (by decide)]; exact h.2.2.2.1) (by rw [sw_s]; exact hv)
theorem plIs_wS1 {s s' : sgT} {P : Nat} {x : plT} (h : plIs s P x) {sh : Nat → Option Nat} (h0 : ∀ j, j < 3 → s' (P + 1) j = shI (sh j)) (hb : ∀ b, b ≠ P + 1 → P ≤ b → b < P + 8 → s' b = s b) : plIs s' P (wS1 x sh) :=
  ⟨by rw [hb _ (by omega) (by omega) (by omega)]; exact h.1, by rw [hb _ (by omega) (by omega) (by omega)]; exact h.2.1, by rw [hb _ (by omega) (by omega) (by omega)]; exact h.2.2.1, by rw [hb _ (by omega) (by omega) (by omega)]; exact h.2.2.2.1, by rw [hb _ (by omega) (by omega) (by omega)]; exact h.2.2.2.2.1, h0, rowIs_keep h.2.2.2.2.2.2.1 (hb _ (by omega) (by omega) (by omega)) (hb _ (by omega) (by omega) (by omega)) (hb _ (by omega) (by omega) (by omega)), rowIs_keep h.2.2.2.2.2.2.2 (hb _ (by omega) (by omega) (by omega)) (hb _ (by omega) (by omega) (by omega)) (hb _ (by omega) (by omega) (by omega))⟩
theorem plIs_wB {s s' : sgT} {P : Nat} {x : plT} (h : plIs s P x) {b : bbT} (h0 : bbIs s' P b) (hb : ∀ a, a = P ∨ a = P + 1 → s' a = s a) : plIs s' P (wB x b) :=
  ⟨by rw [hb _ (by omega)]; exact h.1, by rw [hb _ (by omega)]; exact h.2.1, by rw [hb _ (by omega)]; exact h.2.2.1, by rw [hb _ (by omega)]; exact h.2.2.2.1, by rw [hb _ (by omega)]; exact h.2.2.2.2.1, fun j hj => by rw [hb _ (by omega)]; exact h.2.2.2.2.2.1 j hj, h0.2, h0.1⟩
theorem poolOk_le {B C : Nat} {pl : Nat → Nat} (h : poolOk B pl) (hc : B ≤ C) : poolOk C pl := fun k hk => Nat.le_trans (h k hk) hc
theorem poolOk_inc {B k n : Nat} {pl : Nat → Nat} (h : poolOk B pl) : poolOk (B + n) (incP pl k n) := by
  intro j hj
  have := h j hj
  unfold incP
  split <;> omega
theorem poolOk_dec {B : Nat} {pl : Nat → Nat} {o : Option Nat} (h : poolOk B pl) : poolOk B (decP pl o) := by
  cases o with
  | none => exact h
  | some k =>
    intro j hj
    have := h j hj
    show (if j = k then pl j - 1 else pl j) ≤ B
    split <;> omega
theorem poolOk_fill1 {B : Nat} {pl : Nat → Nat} {sh : Nat → Option Nat} (h : poolOk B pl) : ∀ j, poolOk (B + j) (fill1 pl sh j)
  | 0 => h
  | j + 1 => by
    unfold fill1
    split
    · exact poolOk_le (poolOk_fill1 h j) (by omega)
    · exact poolOk_inc (poolOk_fill1 h j)
theorem poolOk_fillS {B lev : Nat} {q : List Nat} {pl : Nat → Nat} {sh : Nat → Option Nat} (h : poolOk B pl) : ∀ j, poolOk (B + 3) (fillS q pl sh lev j).2.1
  | 0 => poolOk_fill1 h 3
  | j + 1 => poolOk_dec (poolOk_fillS h j)
theorem drawR_lt {pl : Nat → Nat} {n hc k : Nat} (h : drawR pl n hc = some k) : k < 9 := by
  unfold drawR at h
  split at h
  · cases h
  · have := pickF_some h
    omega
theorem fillS_q {lev x : Nat} {q : List Nat} {pl : Nat → Nat} {sh : Nat → Option Nat} : ∀ j, x ∈ (fillS q pl sh lev j).1 → x ∈ q
  | 0, h => h
  | j + 1, h => fillS_q j (List.mem_of_mem_tail h)
theorem headD_le {q : List Nat} (h : ∀ x ∈ q, x ≤ 1000) : q.headD 0 ≤ 1000 := by
  cases q with
  | nil => exact Nat.zero_le _
  | cons a q => exact h a List.mem_cons_self
theorem fight_res : ∀ a, a < 6 → ∀ b, b < 6 → (nI a - nI b ≤ 0 ↔ ¬ b < a) ∧ (0 ≤ nI a - nI b ↔ ¬ a < b) ∧ (b < a → nI a - nI b + nI 1 = nI (a - b + 1)) ∧ (a < b → nI 1 - (nI a - nI b) = nI (b - a + 1)) := by decide +kernel
