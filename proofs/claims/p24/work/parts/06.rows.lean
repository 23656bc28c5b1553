/-! rows over numbers that are known to be natural; rooms by depth; loops -/
def rmD (d k n : Nat) : Room := { frames := d, cells := k, slots := n, locals := 26 * d + 100 }
section gN
variable {G : gG} {V : wV} {M : mT} {cc : ByteArray} {rm : Room} {QF : Array Value → State → List Frame → State → Prop} {pc : Nat} {L : List (Option Value)} {st : List Value} {ws : va_W} {s : sgT} {lo : Nat → Int64} {cells slots : Nat} {a x y e n : Nat} {fl : List (Option Nat)}
theorem nIadd (hd : decode cc pc = .ok (.iadd, 1)) (k : RW G M cc rm QF (pc + 1) L (.int (nI (x + y)) :: st) ws cells slots) : RW G M cc rm QF pc L (.int (nI y) :: .int (nI x) :: st) ws cells slots := by
  refine rIadd hd ?_
  rw [nI_add]
  exact k
theorem nIsub (hd : decode cc pc = .ok (.isub, 1)) (h : y ≤ x) (k : RW G M cc rm QF (pc + 1) L (.int (nI (x - y)) :: st) ws cells slots) : RW G M cc rm QF pc L (.int (nI y) :: .int (nI x) :: st) ws cells slots := by
  refine rIsub hd ?_
  rw [pk_sub h]
  exact k
theorem nImul (hd : decode cc pc = .ok (.imul, 1)) (k : RW G M cc rm QF (pc + 1) L (.int (nI (x * y)) :: st) ws cells slots) : RW G M cc rm QF pc L (.int (nI y) :: .int (nI x) :: st) ws cells slots := by
  refine rImul hd ?_
  rw [pk_mul]
  exact k
theorem nIdiv (hd : decode cc pc = .ok (.idiv, 1)) (hx : x < 2 ^ 31) (h0 : 0 < y) (hy : y < 2 ^ 31) (k : RW G M cc rm QF (pc + 1) L (.int (nI (x / y)) :: st) ws cells slots) : RW G M cc rm QF pc L (.int (nI y) :: .int (nI x) :: st) ws cells slots := by
  refine rIdiv hd (nI_ne0 h0 hy) ?_
  rw [pk_div hx h0 hy]
  exact k
theorem nIrem (hd : decode cc pc = .ok (.irem, 1)) (hx : x < 2 ^ 31) (h0 : 0 < y) (hy : y < 2 ^ 31) (k : RW G M cc rm QF (pc + 1) L (.int (nI (x % y)) :: st) ws cells slots) : RW G M cc rm QF pc L (.int (nI y) :: .int (nI x) :: st) ws cells slots := by
  refine rIrem hd (nI_ne0 h0 hy) ?_
  rw [pk_rem hx h0 hy]
  exact k
theorem nIald {v : Int32} (hd : decode cc pc = .ok (.iaload, 1)) (ha : shAt V a (8, n, fl)) (hi : e < n) (hn : n < 2 ^ 31) (hv : s a e = v) (kk : RW G M cc rm QF (pc + 1) L (.int v :: st) (wS G V s lo) cells slots) : RW G M cc rm QF pc L (.int (nI e) :: .ref (ad V a) :: st) (wS G V s lo) cells slots :=
  sIald hd ha (vp_in_nI hi hn) (by rw [nI_clamp (by omega)]; exact hv) kk
theorem nIast {v : Int32} (hd : decode cc pc = .ok (.iastore, 1)) (ha : shAt V a (8, n, fl)) (hi : e < n) (hn : n < 2 ^ 31) (kk : RW G M cc rm QF (pc + 1) L st (wS G V (sw s a e v) lo) cells slots) : RW G M cc rm QF pc L (.int v :: .int (nI e) :: .ref (ad V a) :: st) (wS G V s lo) cells slots := by
  refine sIast hd ha (vp_in_nI hi hn) ?_
  rw [nI_clamp (by omega)]
  exact kk
theorem nAald {b : Nat} (hd : decode cc pc = .ok (.aaload, 1)) (ha : shAt V a (10, n, fl)) (hi : e < n) (hn : n < 2 ^ 31) (hv : fl.getD e none = some b) (kk : RW G M cc rm QF (pc + 1) L (.ref (ad V b) :: st) (wS G V s lo) cells slots) : RW G M cc rm QF pc L (.int (nI e) :: .ref (ad V a) :: st) (wS G V s lo) cells slots :=
  sAald hd ha (vp_in_nI hi hn) (by rw [nI_clamp (by omega)]; exact hv) kk
/-- the value on top under another name -/
theorem tTop {v w : Int32} (h : v = w) (kk : RW G M cc rm QF pc L (.int w :: st) ws cells slots) : RW G M cc rm QF pc L (.int v :: st) ws cells slots := h ▸ kk
/-- the state under another name -/
theorem tS {s' : sgT} (h : s = s') (kk : RW G M cc rm QF pc L st (wS G V s' lo) cells slots) : RW G M cc rm QF pc L st (wS G V s lo) cells slots := h ▸ kk
end gN
/-- a loop that counts up: P i behind P (i + 1) -/
theorem loopUp {P : Nat → Prop} (e : Nat) (h : ∀ i, i ≤ e → (i < e → P (i + 1)) → P i) : ∀ i, i ≤ e → P i := by
  have key : ∀ m i, i + m = e → P i := by
    intro m
    induction m with
    | zero => intro i hi; exact h i (by omega) (fun hl => absurd hl (by omega))
    | succ m ih => intro i hi; exact h i (by omega) (fun _ => ih (i + 1) (by omega))
  intro i hi
  exact key (e - i) i (by omega)
/-- a row of units: object, kinds, stars -/
def rowAt (V : wV) (r n : Nat) : Prop := shAt V r (5, 0, [some (r + 1), some (r + 2), none]) ∧ shAt V (r + 1) (8, n, []) ∧ shAt V (r + 2) (8, n, [])
/-- a player: object, shop, bench, board -/
def plAt (V : wV) (P : Nat) : Prop := shAt V P (2, 0, [none, none, none, none, none, some (P + 1), some (P + 2), some (P + 5)]) ∧ shAt V (P + 1) (8, 3, []) ∧ rowAt V (P + 2) 6 ∧ rowAt V (P + 5) 5
def sideAt (V : wV) (d : Nat) : Prop := shAt V d (4, 0, [some (d + 1), some (d + 2), none, none]) ∧ shAt V (d + 1) (8, 5, []) ∧ shAt V (d + 2) (8, 5, [])
/-- a battle: the object, its two sides, its record -/
def batAt (V : wV) (B : Nat) : Prop := shAt V B (0, 0, [some (B + 1), some (B + 4), some (B + 7), some (B + 8), none]) ∧ sideAt V (B + 1) ∧ sideAt V (B + 4) ∧ shAt V (B + 7) (8, 60, []) ∧ shAt V (B + 8) (8, 60, [])
/-- a hall: the object and all that it refers to -/
def hallAt (V : wV) (o : Nat) : Prop :=
  shAt V o (6, 0, [some (o + 1), some (o + 2), some (o + 4), some (o + 6), none]) ∧
  shAt V (o + 1) (10, 4, [some (o + 15 + 8 * 0), some (o + 15 + 8 * 1), some (o + 15 + 8 * 2), some (o + 15 + 8 * 3)]) ∧
  shAt V (o + 2) (3, 0, [some (o + 2 + 1)]) ∧ shAt V (o + 2 + 1) (8, 9, []) ∧
  shAt V (o + 4) (1, 0, [some (o + 4 + 1), none, none]) ∧ shAt V (o + 4 + 1) (8, 100, []) ∧
  batAt V (o + 6) ∧
  ∀ p, p < 4 → plAt V (o + 15 + 8 * p)
theorem hall_pl {o p : Nat} (hp : p < 4) : ([some (o + 15 + 8 * 0), some (o + 15 + 8 * 1), some (o + 15 + 8 * 2), some (o + 15 + 8 * 3)] : List (Option Nat)).getD p none = some (o + 15 + 8 * p) := by
  match p, hp with
  | 0, _ => rfl
  | 1, _ => rfl
  | 2, _ => rfl
  | 3, _ => rfl
  | n + 4, hp => exact absurd hp (by omega)
/-- the reference: the object, its fifteen rows -/
def modAt (V : wV) (m : Nat) : Prop :=
  shAt V m (7, 0, [none, none, none, none, some (m + 1), some (m + 2), some (m + 3), some (m + 4), some (m + 5), some (m + 6), some (m + 7), some (m + 8), some (m + 9), some (m + 10), some (m + 11), some (m + 12), some (m + 13), some (m + 14), some (m + 15)]) ∧
  shAt V (m + 1) (8, 100, []) ∧ shAt V (m + 2) (8, 9, []) ∧ shAt V (m + 3) (8, 4, []) ∧ shAt V (m + 4) (8, 4, []) ∧ shAt V (m + 5) (8, 4, []) ∧ shAt V (m + 6) (8, 4, []) ∧ shAt V (m + 7) (8, 12, []) ∧ shAt V (m + 8) (9, 4, []) ∧ shAt V (m + 9) (8, 4, []) ∧ shAt V (m + 10) (8, 24, []) ∧ shAt V (m + 11) (8, 4, []) ∧ shAt V (m + 12) (8, 20, []) ∧ shAt V (m + 13) (8, 2, []) ∧ shAt V (m + 14) (8, 2, []) ∧ shAt V (m + 15) (8, 10, [])
/-- a row holds these units: 10 times the kind and the stars -/
def rowIs (s : sgT) (r : Nat) (l : List Nat) : Prop := s r 2 = nI l.length ∧ ∀ i, i < l.length → s (r + 1) i = nI (l.getD i 0 / 10) ∧ s (r + 2) i = nI (l.getD i 0 % 10)
/-- a unit: kind 0 to 8, stars 1 to 3 -/
def okU (u : Nat) : Prop := u / 10 < 9 ∧ 1 ≤ u % 10 ∧ u % 10 ≤ 3
def okR (l : List Nat) : Prop := ∀ i, i < l.length → okU (l.getD i 0)
theorem rowIs_keep {s s' : sgT} {r : Nat} {l : List Nat} (h : rowIs s r l) (h0 : s' r = s r) (h1 : s' (r + 1) = s (r + 1)) (h2 : s' (r + 2) = s (r + 2)) : rowIs s' r l := by
  unfold rowIs at h ⊢
  rw [h0, h1, h2]
  exact h
