/-! the reference: how it lies, its small methods -/
def mrow (s : sgT) (a b p n : Nat) (l : List Nat) : Prop := s a p = nI l.length ∧ ∀ i, i < l.length → s b (n * p + i) = nI (l.getD i 0)
def mbb (s : sgT) (m p : Nat) (b : bbT) : Prop := mrow s (m + 11) (m + 12) p 5 b.1 ∧ mrow s (m + 9) (m + 10) p 6 b.2
def mpl (s : sgT) (m p : Nat) (x : plT) : Prop := s (m + 3) p = nI (pGold x) ∧ s (m + 4) p = nI (pLev x) ∧ s (m + 5) p = nI (pHth x) ∧ s (m + 6) p = pStk x ∧ s (m + 8) p = bI (pLck x) ∧ (∀ j, j < 3 → s (m + 7) (3 * p + j) = shI (pShp x j)) ∧ mbb s m p (pBrd x, pBen x)
def mque (s : sgT) (m : Nat) (q : List Nat) : Prop := ∃ f : Nat, f < 100 ∧ s m 2 = nI f ∧ s m 3 = nI q.length ∧ q.length ≤ 100 ∧ ∀ i, i < q.length → s (m + 1) ((f + i) % 100) = nI (q.getD i 0)
def modIs (s : sgT) (m : Nat) (h : hT) : Prop := s m 1 = nI (hR h) ∧ mque s m (hQ h) ∧ (∀ k, k < 9 → s (m + 2) k = nI (hP h k)) ∧ ∀ p, p < 4 → mpl s m p (hY h p)
def mFr (s s' : sgT) (m : Nat) : Prop := ∀ b, b < m ∨ m + 16 ≤ b → s' b = s b
/-- everything but player p's own cells is as before -/
def mPF (s s' : sgT) (m p : Nat) : Prop := s' m = s m ∧ s' (m + 1) = s (m + 1) ∧ s' (m + 2) = s (m + 2) ∧ (∀ a i, 3 ≤ a → a ≤ 11 → i ≠ p → a ≠ 7 → a ≠ 10 → s' (m + a) i = s (m + a) i) ∧ (∀ i, i < 3 * p ∨ 3 * p + 3 ≤ i → s' (m + 7) i = s (m + 7) i) ∧ (∀ i, i < 6 * p ∨ 6 * p + 6 ≤ i → s' (m + 10) i = s (m + 10) i) ∧ (∀ i, i < 5 * p ∨ 5 * p + 5 ≤ i → s' (m + 12) i = s (m + 12) i) ∧ (∀ b, b < m ∨ m + 13 ≤ b → s' b = s b)
def mPost (m : Nat) (s : sgT) (r : rT) (v : Int32) (s' : sgT) : Prop := s' m 0 = nI r.1 ∧ (r.1 = 0 → v = r.2.1) ∧ modIs s' m r.2.2 ∧ mFr s s' m
theorem mFr.refl {s : sgT} {m : Nat} : mFr s s m := fun _ _ => rfl
theorem mFr.trans {s s' s2 : sgT} {m : Nat} (h : mFr s s' m) (h2 : mFr s' s2 m) : mFr s s2 m := fun b hb => by rw [h2 b hb, h b hb]
theorem mPF.fr {s s' : sgT} {m p : Nat} (h : mPF s s' m p) : mFr s s' m := fun b hb => h.2.2.2.2.2.2.2 b (by omega)
theorem mPF.refl {s : sgT} {m p : Nat} : mPF s s m p := ⟨rfl, rfl, rfl, fun _ _ _ _ _ _ _ => rfl, fun _ _ => rfl, fun _ _ => rfl, fun _ _ => rfl, fun _ _ => rfl⟩
theorem mPF.trans {s s' s2 : sgT} {m p : Nat} (h : mPF s s' m p) (g : mPF s' s2 m p) : mPF s s2 m p := by
  obtain ⟨a1, a2, a3, a4, a5, a6, a7, a8⟩ := h
  obtain ⟨b1, b2, b3, b4, b5, b6, b7, b8⟩ := g
  exact ⟨b1.trans a1, b2.trans a2, b3.trans a3, fun a i h1 h2 h3 h4 h5 => (b4 a i h1 h2 h3 h4 h5).trans (a4 a i h1 h2 h3 h4 h5), fun i hi => (b5 i hi).trans (a5 i hi), fun i hi => (b6 i hi).trans (a6 i hi), fun i hi => (b7 i hi).trans (a7 i hi), fun i hi => (b8 i hi).trans (a8 i hi)⟩
theorem mPF_1 {s : sgT} {m p a : Nat} {v : Int32} (h3 : 3 ≤ a) (h11 : a ≤ 11) (h7 : a ≠ 7) (h10 : a ≠ 10) : mPF s (sw s (m + a) p v) m p :=
  ⟨sw_a (by omega), sw_a (by omega), sw_a (by omega), fun a' i _ _ hi _ _ => by
    by_cases e : a' = a
    · subst e
      exact sw_i hi
    · rw [sw_a (by omega)], fun i _ => by rw [sw_a (by omega)], fun i _ => by rw [sw_a (by omega)], fun i _ => by rw [sw_a (by omega)], fun b hb => sw_a (by omega)⟩
theorem mPF_7 {s : sgT} {m p i : Nat} {v : Int32} (h : 3 * p ≤ i) (h2 : i < 3 * p + 3) : mPF s (sw s (m + 7) i v) m p :=
  ⟨sw_a (by omega), sw_a (by omega), sw_a (by omega), fun a' i _ _ hi _ _ => by rw [sw_a (by omega)], fun j hj => sw_i (by omega), fun i _ => by rw [sw_a (by omega)], fun i _ => by rw [sw_a (by omega)], fun b hb => sw_a (by omega)⟩
theorem mPF_10 {s : sgT} {m p i : Nat} {v : Int32} (h : 6 * p ≤ i) (h2 : i < 6 * p + 6) : mPF s (sw s (m + 10) i v) m p :=
  ⟨sw_a (by omega), sw_a (by omega), sw_a (by omega), fun a' i _ _ hi _ _ => by rw [sw_a (by omega)], fun i _ => by rw [sw_a (by omega)], fun j hj => sw_i (by omega), fun i _ => by rw [sw_a (by omega)], fun b hb => sw_a (by omega)⟩
theorem mPF_12 {s : sgT} {m p i : Nat} {v : Int32} (h : 5 * p ≤ i) (h2 : i < 5 * p + 5) : mPF s (sw s (m + 12) i v) m p :=
  ⟨sw_a (by omega), sw_a (by omega), sw_a (by omega), fun a' i _ _ hi _ _ => by rw [sw_a (by omega)], fun i _ => by rw [sw_a (by omega)], fun i _ => by rw [sw_a (by omega)], fun j hj => sw_i (by omega), fun b hb => sw_a (by omega)⟩
theorem mrow_keep {s s' : sgT} {a b p n : Nat} {l : List Nat} (h : mrow s a b p n l) (h0 : s' a p = s a p) (h1 : ∀ i, i < l.length → s' b (n * p + i) = s b (n * p + i)) : mrow s' a b p n l :=
  ⟨h0.trans h.1, fun i hi => (h1 i hi).trans (h.2 i hi)⟩
theorem mpl_keep {s s' : sgT} {m p : Nat} {x : plT} (h : mpl s m p x) (ho : plOk x) (hb : ∀ a i, 3 ≤ a → a ≤ 11 → a ≠ 7 → a ≠ 10 → i = p → s' (m + a) i = s (m + a) i) (h7 : ∀ i, 3 * p ≤ i → i < 3 * p + 3 → s' (m + 7) i = s (m + 7) i) (h10 : ∀ i, 6 * p ≤ i → i < 6 * p + 6 → s' (m + 10) i = s (m + 10) i) (h12 : ∀ i, 5 * p ≤ i → i < 5 * p + 5 → s' (m + 12) i = s (m + 12) i) : mpl s' m p x := by
  obtain ⟨e1, e2, e3, e4, e5, e6, e7, e8⟩ := h
  obtain ⟨o1, o2, o3, o4, o5, o6, o7, o8, o9⟩ := ho
  exact ⟨(hb 3 p (by omega) (by omega) (by omega) (by omega) rfl).trans e1, (hb 4 p (by omega) (by omega) (by omega) (by omega) rfl).trans e2, (hb 5 p (by omega) (by omega) (by omega) (by omega) rfl).trans e3, (hb 6 p (by omega) (by omega) (by omega) (by omega) rfl).trans e4, (hb 8 p (by omega) (by omega) (by omega) (by omega) rfl).trans e5, fun j hj => (h7 _ (by omega) (by omega)).trans (e6 j hj), mrow_keep e7 (hb 11 p (by omega) (by omega) (by omega) (by omega) rfl) (fun i hi => h12 _ (by omega) (by have : i < (pBrd x).length := hi; omega)), mrow_keep e8 (hb 9 p (by omega) (by omega) (by omega) (by omega) rfl) (fun i hi => h10 _ (by omega) (by have : i < (pBen x).length := hi; omega))⟩
theorem mque_keep {s s' : sgT} {m : Nat} {q : List Nat} (h : mque s m q) (h0 : ∀ j, j = 2 ∨ j = 3 → s' m j = s m j) (h1 : s' (m + 1) = s (m + 1)) : mque s' m q := by
  obtain ⟨f, a1, a2, a3, a4, a5⟩ := h
  exact ⟨f, a1, (h0 2 (by omega)).trans a2, (h0 3 (by omega)).trans a3, a4, fun i hi => by rw [h1]; exact a5 i hi⟩
/-- player p alone has moved -/
theorem modIs_P {B : Nat} {s s' : sgT} {m p : Nat} {h : hT} (hh : modIs s m h) (hk : hallOk B h) {x : plT} (hf : mPF s s' m p) (hx : mpl s' m p x) : modIs s' m (setY h p x) := by
  obtain ⟨b1, b2, b3, b4, b5, b6, b7, b8⟩ := hf
  refine ⟨by rw [b1]; exact hh.1, mque_keep hh.2.1 (fun j _ => by rw [b1]) b2, fun k hk => by rw [b3]; exact hh.2.2.1 k hk, fun i hi => ?_⟩
  show mpl s' m i (if i = p then x else hY h i)
  by_cases e : i = p
  · subst e
    rw [if_pos rfl]
    exact hx
  · rw [if_neg e]
    exact mpl_keep (hh.2.2.2 i hi) (hk.2.2.1 i hi) (fun a j h1 h2 h3 h4 h5 => b4 a j h1 h2 (by omega) h3 h4) (fun j h1 h2 => b5 j (by omega)) (fun j h1 h2 => b6 j (by omega)) (fun j h1 h2 => b7 j (by omega))
theorem mPF.bb {s s' : sgT} {m p : Nat} {x : plT} (h : mpl s m p x) (hb : ∀ a, 3 ≤ a → a ≤ 8 → s' (m + a) = s (m + a)) {b : bbT} (hx : mbb s' m p b) : mpl s' m p (wB x b) :=
  ⟨by rw [hb 3 (by omega) (by omega)]; exact h.1, by rw [hb 4 (by omega) (by omega)]; exact h.2.1, by rw [hb 5 (by omega) (by omega)]; exact h.2.2.1, by rw [hb 6 (by omega) (by omega)]; exact h.2.2.2.1, by rw [hb 8 (by omega) (by omega)]; exact h.2.2.2.2.1, fun j hj => by rw [hb 7 (by omega) (by omega)]; exact h.2.2.2.2.2.1 j hj, hx⟩
theorem modIs_thr {s : sgT} {m : Nat} {h : hT} {v : Int32} (hh : modIs s m h) : modIs (sw s m 0 v) m h :=
  ⟨by rw [sw_i (by decide)]; exact hh.1, mque_keep hh.2.1 (fun j hj => sw_i (by omega)) (sw_a (by omega)), fun k hk => by rw [sw_a (by omega)]; exact hh.2.2.1 k hk, fun p hp => by
    obtain ⟨e1, e2, e3, e4, e5, e6, e7, e8⟩ := hh.2.2.2 p hp
    exact ⟨by rw [sw_a (by omega)]; exact e1, by rw [sw_a (by omega)]; exact e2, by rw [sw_a (by omega)]; exact e3, by rw [sw_a (by omega)]; exact e4, by rw [sw_a (by omega)]; exact e5, fun j hj => by rw [sw_a (by omega)]; exact e6 j hj, mrow_keep e7 (by rw [sw_a (by omega)]) (fun i hi => by rw [sw_a (by omega)]), mrow_keep e8 (by rw [sw_a (by omega)]) (fun i hi => by rw [sw_a (by omega)])⟩⟩
theorem i_nle {x a : Int32} (h : x < a) : ¬ a ≤ x := Int32.not_le.mpr h
theorem i_le {x a : Int32} (h : ¬ x < a) : a ≤ x := Int32.not_lt.mp h
theorem in_iff {n : Nat} {x : Int32} (hn : n < 2 ^ 30) : (nI 0 ≤ x ∧ x ≤ nI n - nI 1) ↔ ∃ p, p < n ∧ x = nI p := by
  have e0 : (nI 0).toInt = 0 := by decide
  have e1 : (nI n - nI 1).toInt = (n : Int) - 1 := pk_sub_toInt hn (by decide)
  constructor
  · rintro ⟨h1, h2⟩
    have h3 := Int32.le_iff_toInt_le.mp h1
    have h4 := Int32.le_iff_toInt_le.mp h2
    have hx : ¬ x < 0 := fun h => by
      have h5 := Int32.lt_iff_toInt_lt.mp h
      have h6 : (0 : Int32).toInt = 0 := by decide
      omega
    obtain ⟨j, hj, rfl⟩ := nI_of hx
    rw [nI_toInt hj] at h3 h4
    exact ⟨j, by omega, rfl⟩
  · rintro ⟨p, hp, rfl⟩
    have e2 := nI_toInt (n := p) (by omega)
    constructor
    · rw [Int32.le_iff_toInt_le, e0, e2]
      omega
    · rw [Int32.le_iff_toInt_le, e2, e1]
      omega
theorem isB.pos {r : Int32} {c : Prop} (h : isB r c) (hc : c) : r = nI 1 := h.elim (fun z => z.2) (fun z => absurd hc z.1)
theorem isB.neg {r : Int32} {c : Prop} (h : isB r c) (hc : ¬ c) : r = nI 0 := h.elim (fun z => absurd z.1 hc) (fun z => z.2)
theorem isB.iff {r : Int32} {c d : Prop} (h : isB r c) (e : c ↔ d) : isB r d := by rw [← (propext e : c = d)]; exact h
set_option maxRecDepth 100000 in
set_option maxHeartbeats 4000000 in
theorem c_X7_in {G : gG} {V : wV} {lo : Nat → Int64} {s : sgT} {x a b : Int32} : CSp G V mX7_in cX7_in (rmD 1 0 0) [.int x, .int a, .int b] s lo (fun v => isB v (a ≤ x ∧ x ≤ b)) (fun _ => False) := by
  refine CSp.of (L := [some (.int x), some (.int a), some (.int b)]) rfl (by decide +kernel) rfl (Nat.le_of_ble_eq_true rfl) rfl ?_
  refine rIload_n dX7_in_0 rfl ?_
  refine rIload_n dX7_in_1 rfl ?_
  refine r_icmp_lt (tgt := 14) dX7_in_2 (by decide) (fun c_2 => ?_) (fun c_2 => ?_)
  · refine rIconst (v := (nI (0))) dX7_in_14 (by decide) ?_
    exact sIret dX7_in_15 rfl rfl (Nat.le_of_ble_eq_true rfl) (Nat.le_of_ble_eq_true rfl) ⟨_, rfl, rfl, Or.inr ⟨fun h => i_nle c_2 h.1, rfl⟩⟩
  · refine rIload_n dX7_in_5 rfl ?_
    refine rIload_n dX7_in_6 rfl ?_
    refine r_icmp_gt (tgt := 14) dX7_in_7 (by decide) (fun c_7 => ?_) (fun c_7 => ?_)
    · refine rIconst (v := (nI (0))) dX7_in_14 (by decide) ?_
      exact sIret dX7_in_15 rfl rfl (Nat.le_of_ble_eq_true rfl) (Nat.le_of_ble_eq_true rfl) ⟨_, rfl, rfl, Or.inr ⟨fun h => i_nle c_7 h.2, rfl⟩⟩
    · refine rIconst (v := (nI (1))) dX7_in_10 (by decide) ?_
      refine rGoto (tgt := 15) dX7_in_11 (by decide) ?_
      exact sIret dX7_in_15 rfl rfl (Nat.le_of_ble_eq_true rfl) (Nat.le_of_ble_eq_true rfl) ⟨_, rfl, rfl, Or.inl ⟨⟨i_le c_2, i_le c_7⟩, rfl⟩⟩
set_option maxRecDepth 100000 in
set_option maxHeartbeats 4000000 in
theorem c_X7_isPlayer {G : gG} {V : wV} {lo : Nat → Int64} {s : sgT} {x : Int32} : CSp G V mX7_isPlayer cX7_isPlayer (rmD 2 0 0) [.int x] s lo (fun v => isB v (∃ p, p < 4 ∧ x = nI p)) (fun _ => False) := by
  refine CSp.of (L := [some (.int x)]) rfl (by decide +kernel) rfl (Nat.le_of_ble_eq_true rfl) rfl ?_
  refine rIload_n dX7_isPlayer_0 rfl ?_
  refine rIconst (v := (nI (0))) dX7_isPlayer_1 (by decide) ?_
  refine rIconst (v := (nI (3))) dX7_isPlayer_2 (by decide) ?_
  refine sCallSp (M' := mX7_in) (rm' := rmD 1 0 0) (As := [.int x, .int (nI 0), .int (nI 3)]) (rest := []) dX7_isPlayer_3 rfl mk_X7_in ms_X7_in ll_X7_60 ⟨(Nat.le_of_ble_eq_true rfl), (Nat.le_of_ble_eq_true rfl)⟩ rfl (Nat.le_of_ble_eq_true rfl) (Nat.le_of_ble_eq_true rfl) (c_X7_in) rfl (Nat.le_of_ble_eq_true rfl) (fun v e => ?_)
  have e3 := e.iff (in_iff (n := 4) (by decide))
  clear e
  rcases e3 with ⟨e3, rfl⟩ | ⟨e3, rfl⟩
  · exact sIret dX7_isPlayer_6 rfl rfl (Nat.le_of_ble_eq_true rfl) (Nat.le_of_ble_eq_true rfl) ⟨_, rfl, rfl, Or.inl ⟨e3, rfl⟩⟩
  · exact sIret dX7_isPlayer_6 rfl rfl (Nat.le_of_ble_eq_true rfl) (Nat.le_of_ble_eq_true rfl) ⟨_, rfl, rfl, Or.inr ⟨e3, rfl⟩⟩
set_option maxRecDepth 100000 in
set_option maxHeartbeats 4000000 in
theorem c_X7_isKind {G : gG} {V : wV} {lo : Nat → Int64} {s : sgT} {x : Int32} : CSp G V mX7_isKind cX7_isKind (rmD 2 0 0) [.int x] s lo (fun v => isB v (∃ p, p < 9 ∧ x = nI p)) (fun _ => False) := by
  refine CSp.of (L := [some (.int x)]) rfl (by decide +kernel) rfl (Nat.le_of_ble_eq_true rfl) rfl ?_
  refine rIload_n dX7_isKind_0 rfl ?_
  refine rIconst (v := (nI (0))) dX7_isKind_1 (by decide) ?_
  refine rBipush (v := (nI (8))) dX7_isKind_2 (by decide) ?_
  refine sCallSp (M' := mX7_in) (rm' := rmD 1 0 0) (As := [.int x, .int (nI 0), .int (nI 8)]) (rest := []) dX7_isKind_4 rfl mk_X7_in ms_X7_in ll_X7_60 ⟨(Nat.le_of_ble_eq_true rfl), (Nat.le_of_ble_eq_true rfl)⟩ rfl (Nat.le_of_ble_eq_true rfl) (Nat.le_of_ble_eq_true rfl) (c_X7_in) rfl (Nat.le_of_ble_eq_true rfl) (fun v e => ?_)
  have e3 := e.iff (in_iff (n := 9) (by decide))
  clear e
  rcases e3 with ⟨e3, rfl⟩ | ⟨e3, rfl⟩
  · exact sIret dX7_isKind_7 rfl rfl (Nat.le_of_ble_eq_true rfl) (Nat.le_of_ble_eq_true rfl) ⟨_, rfl, rfl, Or.inl ⟨e3, rfl⟩⟩
  · exact sIret dX7_isKind_7 rfl rfl (Nat.le_of_ble_eq_true rfl) (Nat.le_of_ble_eq_true rfl) ⟨_, rfl, rfl, Or.inr ⟨e3, rfl⟩⟩
set_option maxRecDepth 100000 in
set_option maxHeartbeats 4000000 in
theorem c_X7_isSlot {G : gG} {V : wV} {lo : Nat → Int64} {s : sgT} {x y : Int32} : CSp G V mX7_isSlot cX7_isSlot (rmD 3 0 0) [.int x, .int y] s lo (fun v => isB v ((∃ p, p < 4 ∧ x = nI p) ∧ ∃ j, j < 3 ∧ y = nI j)) (fun _ => False) := by
  refine CSp.of (L := [some (.int x), some (.int y)]) rfl (by decide +kernel) rfl (Nat.le_of_ble_eq_true rfl) rfl ?_
  refine rIload_n dX7_isSlot_0 rfl ?_
  refine sCallSp (M' := mX7_isPlayer) (rm' := rmD 2 0 0) (As := [.int x]) (rest := []) dX7_isSlot_1 rfl mk_X7_isPlayer ms_X7_isPlayer ll_X7_64 ⟨(Nat.le_of_ble_eq_true rfl), (Nat.le_of_ble_eq_true rfl)⟩ rfl (Nat.le_of_ble_eq_true rfl) (Nat.le_of_ble_eq_true rfl) (c_X7_isPlayer) rfl (Nat.le_of_ble_eq_true rfl) (fun v e => ?_)
  rcases e with ⟨e, rfl⟩ | ⟨e, rfl⟩
  · refine r_if_eq (tgt := 20) dX7_isSlot_4 (by decide) (fun c_4 => ?_) (fun c_4 => ?_)
    · have c_4 : 1 = 0 := (nz_eq (by omega)).mp c_4
      exact absurd c_4 (by omega)
    · have c_4 : ¬ (1 = 0) := fun h => c_4 ((nz_eq (by omega)).mpr h)
      refine rIload_n dX7_isSlot_7 rfl ?_
      refine rIconst (v := (nI (0))) dX7_isSlot_8 (by decide) ?_
      refine rIconst (v := (nI (2))) dX7_isSlot_9 (by decide) ?_
      refine sCallSp (M' := mX7_in) (rm' := rmD 1 0 0) (As := [.int y, .int (nI 0), .int (nI 2)]) (rest := []) dX7_isSlot_10 rfl mk_X7_in ms_X7_in ll_X7_60 ⟨(Nat.le_of_ble_eq_true rfl), (Nat.le_of_ble_eq_true rfl)⟩ rfl (Nat.le_of_ble_eq_true rfl) (Nat.le_of_ble_eq_true rfl) (c_X7_in) rfl (Nat.le_of_ble_eq_true rfl) (fun v2 e2 => ?_)
      have e3 := e2.iff (in_iff (n := 3) (by decide))
      clear e2
      rcases e3 with ⟨e2, rfl⟩ | ⟨e2, rfl⟩
      · refine r_if_eq (tgt := 20) dX7_isSlot_13 (by decide) (fun c_13 => ?_) (fun c_13 => ?_)
        · have c_13 : 1 = 0 := (nz_eq (by omega)).mp c_13
          exact absurd c_13 (by omega)
        · have c_13 : ¬ (1 = 0) := fun h => c_13 ((nz_eq (by omega)).mpr h)
          refine rIconst (v := (nI (1))) dX7_isSlot_16 (by decide) ?_
          refine rGoto (tgt := 21) dX7_isSlot_17 (by decide) ?_
          exact sIret dX7_isSlot_21 rfl rfl (Nat.le_of_ble_eq_true rfl) (Nat.le_of_ble_eq_true rfl) ⟨_, rfl, rfl, Or.inl ⟨⟨e, e2⟩, rfl⟩⟩
      · refine r_if_eq (tgt := 20) dX7_isSlot_13 (by decide) (fun c_13 => ?_) (fun c_13 => ?_)
        · have c_13 : 0 = 0 := (nz_eq (by omega)).mp c_13
          refine rIconst (v := (nI (0))) dX7_isSlot_20 (by decide) ?_
          exact sIret dX7_isSlot_21 rfl rfl (Nat.le_of_ble_eq_true rfl) (Nat.le_of_ble_eq_true rfl) ⟨_, rfl, rfl, Or.inr ⟨fun h => e2 h.2, rfl⟩⟩
        · have c_13 : ¬ (0 = 0) := fun h => c_13 ((nz_eq (by omega)).mpr h)
          exact absurd c_13 (by omega)
  · refine r_if_eq (tgt := 20) dX7_isSlot_4 (by decide) (fun c_4 => ?_) (fun c_4 => ?_)
    · have c_4 : 0 = 0 := (nz_eq (by omega)).mp c_4
      refine rIconst (v := (nI (0))) dX7_isSlot_20 (by decide) ?_
      exact sIret dX7_isSlot_21 rfl rfl (Nat.le_of_ble_eq_true rfl) (Nat.le_of_ble_eq_true rfl) ⟨_, rfl, rfl, Or.inr ⟨fun h => e h.1, rfl⟩⟩
    · have c_4 : ¬ (0 = 0) := fun h => c_4 ((nz_eq (by omega)).mpr h)
      exact absurd c_4 (by omega)
set_option maxRecDepth 100000 in
set_option maxHeartbeats 4000000 in
theorem c_X7_cost {G : gG} {V : wV} {lo : Nat → Int64} {s : sgT} {k : Nat} (hk : k < 2 ^ 31) : CSp G V mX7_cost cX7_cost (rmD 1 0 0) [.int (nI k)] s lo (fun v => v = nI (cst k)) (fun _ => False) := by
  refine CSp.of (L := [some (.int (nI k))]) rfl (by decide +kernel) rfl (Nat.le_of_ble_eq_true rfl) rfl ?_
  refine rIload_n dX7_cost_0 rfl ?_
  refine rIconst (v := (nI (3))) dX7_cost_1 (by decide) ?_
  refine nIdiv dX7_cost_2 (by omega) (by decide) (by decide) ?_
  refine rIconst (v := (nI (1))) dX7_cost_3 (by decide) ?_
  refine nIadd dX7_cost_4 ?_
  exact sIret dX7_cost_5 rfl rfl (Nat.le_of_ble_eq_true rfl) (Nat.le_of_ble_eq_true rfl) ⟨_, rfl, rfl, rfl⟩
set_option maxRecDepth 100000 in
set_option maxHeartbeats 4000000 in
theorem c_X7_third {G : gG} {V : wV} {lo : Nat → Int64} {s : sgT} {k : Nat} (hk : k < 2 ^ 31) : CSp G V mX7_third cX7_third (rmD 1 0 0) [.int (nI k)] s lo (fun v => v = nI (if k = 0 then 2 else 1)) (fun _ => False) := by
  refine CSp.of (L := [some (.int (nI k))]) rfl (by decide +kernel) rfl (Nat.le_of_ble_eq_true rfl) rfl ?_
  refine rIload_n dX7_third_0 rfl ?_
  refine r_if_ne (tgt := 8) dX7_third_1 (by decide) (fun c_1 => ?_) (fun c_1 => ?_)
  · have c_1 : ¬ (k = 0) := fun h => c_1 ((nz_eq (by omega)).mpr h)
    refine rIconst (v := (nI (1))) dX7_third_8 (by decide) ?_
    exact sIret dX7_third_9 rfl rfl (Nat.le_of_ble_eq_true rfl) (Nat.le_of_ble_eq_true rfl) ⟨_, rfl, rfl, (congrArg nI (if_neg c_1)).symm⟩
  · have c_1 : k = 0 := (nz_eq (by omega)).mp c_1
    refine rIconst (v := (nI (2))) dX7_third_4 (by decide) ?_
    refine rGoto (tgt := 9) dX7_third_5 (by decide) ?_
    exact sIret dX7_third_9 rfl rfl (Nat.le_of_ble_eq_true rfl) (Nat.le_of_ble_eq_true rfl) ⟨_, rfl, rfl, (congrArg nI (if_pos c_1)).symm⟩
set_option maxRecDepth 100000 in
set_option maxHeartbeats 4000000 in
theorem c_X7_worth {G : gG} {V : wV} {lo : Nat → Int64} {s : sgT} {k : Nat} (hk : k < 2 ^ 31) : CSp G V mX7_worth cX7_worth (rmD 1 0 0) [.int (nI k)] s lo (fun v => v = nI (wor k)) (fun _ => False) := by
  refine CSp.of (L := [some (.int (nI k))]) rfl (by decide +kernel) rfl (Nat.le_of_ble_eq_true rfl) rfl ?_
  refine rIload_n dX7_worth_0 rfl ?_
  refine rIconst (v := (nI (1))) dX7_worth_1 (by decide) ?_
  refine r_icmp_ne (tgt := 9) dX7_worth_2 (by decide) (fun c_2 => ?_) (fun c_2 => ?_)
  · have c_2 : ¬ (k = 1) := fun h => c_2 ((nI_eq (by omega) (by omega)).mpr h)
    refine rIload_n dX7_worth_9 rfl ?_
    refine rIconst (v := (nI (2))) dX7_worth_10 (by decide) ?_
    refine r_icmp_ne (tgt := 18) dX7_worth_11 (by decide) (fun c_11 => ?_) (fun c_11 => ?_)
    · have c_11 : ¬ (k = 2) := fun h => c_11 ((nI_eq (by omega) (by omega)).mpr h)
      refine rBipush (v := (nI (9))) dX7_worth_18 (by decide) ?_
      exact sIret dX7_worth_20 rfl rfl (Nat.le_of_ble_eq_true rfl) (Nat.le_of_ble_eq_true rfl) ⟨_, rfl, rfl, (congrArg nI ((if_neg c_2).trans (if_neg c_11))).symm⟩
    · have c_11 : k = 2 := (nI_eq (by omega) (by omega)).mp c_11
      refine rIconst (v := (nI (3))) dX7_worth_14 (by decide) ?_
      refine rGoto (tgt := 20) dX7_worth_15 (by decide) ?_
      exact sIret dX7_worth_20 rfl rfl (Nat.le_of_ble_eq_true rfl) (Nat.le_of_ble_eq_true rfl) ⟨_, rfl, rfl, (congrArg nI ((if_neg c_2).trans (if_pos c_11))).symm⟩
  · have c_2 : k = 1 := (nI_eq (by omega) (by omega)).mp c_2
    refine rIconst (v := (nI (1))) dX7_worth_5 (by decide) ?_
    refine rGoto (tgt := 20) dX7_worth_6 (by decide) ?_
    exact sIret dX7_worth_20 rfl rfl (Nat.le_of_ble_eq_true rfl) (Nat.le_of_ble_eq_true rfl) ⟨_, rfl, rfl, (congrArg nI (if_pos c_2)).symm⟩
set_option maxRecDepth 100000 in
set_option maxHeartbeats 4000000 in
theorem c_X7_least {G : gG} {V : wV} {lo : Nat → Int64} {s : sgT} {a b : Nat} (ha : a < 2 ^ 31) (hb : b < 2 ^ 31) : CSp G V mX7_least cX7_least (rmD 1 0 0) [.int (nI a), .int (nI b)] s lo (fun v => v = nI (min a b)) (fun _ => False) := by
  refine CSp.of (L := [some (.int (nI a)), some (.int (nI b))]) rfl (by decide +kernel) rfl (Nat.le_of_ble_eq_true rfl) rfl ?_
  refine rIload_n dX7_least_0 rfl ?_
  refine rIload_n dX7_least_1 rfl ?_
  refine r_icmp_ge (tgt := 9) dX7_least_2 (by decide) (fun c_2 => ?_) (fun c_2 => ?_)
  · have c_2 : b ≤ a := (nI_leI (by omega) (by omega)).mp c_2
    refine rIload_n dX7_least_9 rfl ?_
    exact sIret dX7_least_10 rfl rfl (Nat.le_of_ble_eq_true rfl) (Nat.le_of_ble_eq_true rfl) ⟨_, rfl, rfl, congrArg nI (by omega)⟩
  · have c_2 : ¬ (b ≤ a) := fun h => c_2 ((nI_leI (by omega) (by omega)).mpr h)
    refine rIload_n dX7_least_5 rfl ?_
    refine rGoto (tgt := 10) dX7_least_6 (by decide) ?_
    exact sIret dX7_least_10 rfl rfl (Nat.le_of_ble_eq_true rfl) (Nat.le_of_ble_eq_true rfl) ⟨_, rfl, rfl, congrArg nI (by omega)⟩
set_option maxRecDepth 100000 in
set_option maxHeartbeats 4000000 in
theorem c_X7_holds {G : gG} {V : wV} {lo : Nat → Int64} {m : Nat} (hm : modAt V m) {s : sgT} {c : Nat} (hc : c < 2 ^ 31) : CSi G V mX7_holds cX7_holds (rmD 1 0 0) [.ref (ad V m), .int (nI c)] s lo (fun v s' => v = (if c = 0 then nI 1 else nI 0) ∧ s' = sw s m 0 (nI c)) (fun _ => False) := by
  refine CSi.of (L := [some (.ref (ad V m)), some (.int (nI c))]) rfl (by decide +kernel) rfl (Nat.le_of_ble_eq_true rfl) rfl ?_
  refine rAload_n dX7_holds_0 rfl ?_
  refine rIload_n dX7_holds_1 rfl ?_
  refine sPutI dX7_holds_2 fl_X7_56 ft_X7 rfl hm.1 (by decide) rfl rfl rfl ?_
  refine rIload_n dX7_holds_5 rfl ?_
  refine r_if_ne (tgt := 13) dX7_holds_6 (by decide) (fun c_6 => ?_) (fun c_6 => ?_)
  · have c_6 : ¬ (c = 0) := fun h => c_6 ((nz_eq (by omega)).mpr h)
    refine rIconst (v := (nI (0))) dX7_holds_13 (by decide) ?_
    exact sIret dX7_holds_14 rfl rfl (Nat.le_of_ble_eq_true rfl) (Nat.le_of_ble_eq_true rfl) ⟨_, rfl, ⟨(if_neg c_6).symm, rfl⟩⟩
  · have c_6 : c = 0 := (nz_eq (by omega)).mp c_6
    refine rIconst (v := (nI (1))) dX7_holds_9 (by decide) ?_
    refine rGoto (tgt := 14) dX7_holds_10 (by decide) ?_
    exact sIret dX7_holds_14 rfl rfl (Nat.le_of_ble_eq_true rfl) (Nat.le_of_ble_eq_true rfl) ⟨_, rfl, ⟨(if_pos c_6).symm, rfl⟩⟩
set_option maxRecDepth 100000 in
set_option maxHeartbeats 4000000 in
theorem c_X7_thrown {G : gG} {V : wV} {lo : Nat → Int64} {m : Nat} (hm : modAt V m) {s : sgT} : CSp G V mX7_thrown cX7_thrown (rmD 1 0 0) [.ref (ad V m)] s lo (fun v => v = s m 0) (fun _ => False) := by
  refine CSp.of (L := [some (.ref (ad V m))]) rfl (by decide +kernel) rfl (Nat.le_of_ble_eq_true rfl) rfl ?_
  refine rAload_n dX7_thrown_0 rfl ?_
  refine sGetI (x := (s m 0)) dX7_thrown_1 fl_X7_56 hm.1 (by decide) rfl rfl ?_
  exact sIret dX7_thrown_4 rfl rfl (Nat.le_of_ble_eq_true rfl) (Nat.le_of_ble_eq_true rfl) ⟨_, rfl, rfl, rfl⟩
set_option maxRecDepth 100000 in
set_option maxHeartbeats 4000000 in
theorem c_X7_rounds {G : gG} {V : wV} {lo : Nat → Int64} {m : Nat} (hm : modAt V m) {s : sgT} {h : hT} (hh : modIs s m h)  : CSi G V mX7_rounds cX7_rounds (rmD 9 0 0) [.ref (ad V m)] s lo (fun v s' => mPost m s ((fun h => (0, nI (hR h), h)) h) v s') (fun _ => False) := by
  refine CSi.of (L := [some (.ref (ad V m))]) rfl (by decide +kernel) rfl (Nat.le_of_ble_eq_true rfl) rfl ?_
  refine rAload_n dX7_rounds_0 rfl ?_
  refine rIconst (v := (nI (0))) dX7_rounds_1 (by decide) ?_
  refine sPutI dX7_rounds_2 fl_X7_56 ft_X7 rfl hm.1 (by decide) rfl rfl rfl ?_
  refine rAload_n dX7_rounds_5 rfl ?_
  refine sGetI (x := (nI (hR h))) dX7_rounds_6 fl_X7_154 hm.1 (by decide) rfl (by rw [sw_i (by decide), hh.1]) ?_
  exact sIret dX7_rounds_9 rfl rfl (Nat.le_of_ble_eq_true rfl) (Nat.le_of_ble_eq_true rfl) ⟨_, rfl, ⟨sw_s, fun _ => rfl, modIs_thr hh, fun b hb => sw_a (by omega)⟩⟩
set_option maxRecDepth 100000 in
set_option maxHeartbeats 4000000 in
theorem c_X7_gold {G : gG} {V : wV} {lo : Nat → Int64} {m : Nat} (hm : modAt V m) {s : sgT} {h : hT} (hh : modIs s m h) {B : Nat} (hok : hallOk B h) (hB : B ≤ 19000) {x : Int32} : CSi G V mX7_gold cX7_gold (rmD 9 0 0) [.ref (ad V m), .int x] s lo (fun v s' => mPost m s ((fAsk (fun z => nI (pGold z))) h x) v s') (fun _ => False) := by
  refine CSi.of (L := [some (.ref (ad V m)), some (.int x)]) rfl (by decide +kernel) rfl (Nat.le_of_ble_eq_true rfl) rfl ?_
  refine rAload_n dX7_gold_0 rfl ?_
  refine rIload_n dX7_gold_1 rfl ?_
  refine sCallSp (M' := mX7_isPlayer) (rm' := rmD 2 0 0) (As := [.int x]) (rest := [.ref (ad V m)]) dX7_gold_2 rfl mk_X7_isPlayer ms_X7_isPlayer ll_X7_64 ⟨(Nat.le_of_ble_eq_true rfl), (Nat.le_of_ble_eq_true rfl)⟩ rfl (Nat.le_of_ble_eq_true rfl) (Nat.le_of_ble_eq_true rfl) (c_X7_isPlayer) rfl (Nat.le_of_ble_eq_true rfl) (fun wp ep => ?_)
  rcases ep with ⟨⟨p, hp, rfl⟩, rfl⟩ | ⟨np, rfl⟩
  · have ip : idx 4 (nI p) = some p := idx_nI hp (by decide)
    have yp : mpl s m p (hY h p) := hh.2.2.2 p hp
    have bdp : mrow s (m + 11) (m + 12) p 5 (pBrd (hY h p)) := yp.2.2.2.2.2.2.1
    have bnp : mrow s (m + 9) (m + 10) p 6 (pBen (hY h p)) := yp.2.2.2.2.2.2.2
    obtain ⟨o1p, o2p, o3p, o4p, o5p, o6p, o7p, o8p, o9p⟩ := hok.2.2.1 p hp
    have hF : (fAsk (fun z => nI (pGold z))) h (nI p) = (0, nI (pGold (hY h p)), h) := by simp only [fAsk, ip]
    rw [hF]
    refine r_if_eq (tgt := 12) dX7_gold_5 (by decide) (fun c_5 => ?_) (fun c_5 => ?_)
    · have c_5 : 1 = 0 := (nz_eq (by omega)).mp c_5
      exact absurd c_5 (by omega)
    · have c_5 : ¬ (1 = 0) := fun h => c_5 ((nz_eq (by omega)).mpr h)
      refine rIconst (v := (nI (0))) dX7_gold_8 (by decide) ?_
      refine rGoto (tgt := 13) dX7_gold_9 (by decide) ?_
      refine sCallVi (M' := mX7_holds) (rm' := rmD 1 0 0) (As := [.int (nI 0)]) (rest := []) dX7_gold_13 rfl mk_X7_holds mi_X7_holds ll_X7_71 ⟨(Nat.le_of_ble_eq_true rfl), (Nat.le_of_ble_eq_true rfl)⟩ hm.1 (by decide) rfl rfl (Nat.le_of_ble_eq_true rfl) (Nat.le_of_ble_eq_true rfl) (c_X7_holds hm (by omega)) rfl (Nat.le_of_ble_eq_true rfl) (fun v13 t13 e13 => ?_)
      obtain ⟨rfl, rfl⟩ := e13
      refine tTop (w := (nI (1))) (if_pos rfl) ?_
      refine r_if_eq (tgt := 28) dX7_gold_16 (by decide) (fun c_16 => ?_) (fun c_16 => ?_)
      · have c_16 : 1 = 0 := (nz_eq (by omega)).mp c_16
        exact absurd c_16 (by omega)
      · have c_16 : ¬ (1 = 0) := fun h => c_16 ((nz_eq (by omega)).mpr h)
        refine rAload_n dX7_gold_19 rfl ?_
        refine sGetR dX7_gold_20 fl_X7_16 hm.1 (by decide) rfl ?_
        refine rIload_n dX7_gold_23 rfl ?_
        refine nIald (v := (nI (pGold (hY h p)))) dX7_gold_24 hm.2.2.2.1 (by omega) (by omega) (by rw [sw_a (by omega), yp.1]) ?_
        refine rGoto (tgt := 29) dX7_gold_25 (by decide) ?_
        exact sIret dX7_gold_29 rfl rfl (Nat.le_of_ble_eq_true rfl) (Nat.le_of_ble_eq_true rfl) ⟨_, rfl, ⟨sw_s, fun _ => rfl, modIs_thr hh, fun b hb => sw_a (by omega)⟩⟩
  · have ip := idx_not np
    have hF : (fAsk (fun z => nI (pGold z))) h x = (1, 0, h) := by simp only [fAsk, ip]
    rw [hF]
    refine r_if_eq (tgt := 12) dX7_gold_5 (by decide) (fun c_5 => ?_) (fun c_5 => ?_)
    · have c_5 : 0 = 0 := (nz_eq (by omega)).mp c_5
      refine rIconst (v := (nI (1))) dX7_gold_12 (by decide) ?_
      refine sCallVi (M' := mX7_holds) (rm' := rmD 1 0 0) (As := [.int (nI 1)]) (rest := []) dX7_gold_13 rfl mk_X7_holds mi_X7_holds ll_X7_71 ⟨(Nat.le_of_ble_eq_true rfl), (Nat.le_of_ble_eq_true rfl)⟩ hm.1 (by decide) rfl rfl (Nat.le_of_ble_eq_true rfl) (Nat.le_of_ble_eq_true rfl) (c_X7_holds hm (by omega)) rfl (Nat.le_of_ble_eq_true rfl) (fun v13 t13 e13 => ?_)
      obtain ⟨rfl, rfl⟩ := e13
      refine tTop (w := (nI (0))) (if_neg (by decide)) ?_
      refine r_if_eq (tgt := 28) dX7_gold_16 (by decide) (fun c_16 => ?_) (fun c_16 => ?_)
      · have c_16 : 0 = 0 := (nz_eq (by omega)).mp c_16
        refine rIconst (v := (nI (0))) dX7_gold_28 (by decide) ?_
        exact sIret dX7_gold_29 rfl rfl (Nat.le_of_ble_eq_true rfl) (Nat.le_of_ble_eq_true rfl) ⟨_, rfl, ⟨sw_s, fun e => absurd e (Nat.succ_ne_zero _), modIs_thr hh, fun b hb => sw_a (by omega)⟩⟩
      · have c_16 : ¬ (0 = 0) := fun h => c_16 ((nz_eq (by omega)).mpr h)
        exact absurd c_16 (by omega)
    · have c_5 : ¬ (0 = 0) := fun h => c_5 ((nz_eq (by omega)).mpr h)
      exact absurd c_5 (by omega)
set_option maxRecDepth 100000 in
set_option maxHeartbeats 4000000 in
theorem c_X7_health {G : gG} {V : wV} {lo : Nat → Int64} {m : Nat} (hm : modAt V m) {s : sgT} {h : hT} (hh : modIs s m h) {B : Nat} (hok : hallOk B h) (hB : B ≤ 19000) {x : Int32} : CSi G V mX7_health cX7_health (rmD 9 0 0) [.ref (ad V m), .int x] s lo (fun v s' => mPost m s ((fAsk (fun z => nI (pHth z))) h x) v s') (fun _ => False) := by
  refine CSi.of (L := [some (.ref (ad V m)), some (.int x)]) rfl (by decide +kernel) rfl (Nat.le_of_ble_eq_true rfl) rfl ?_
  refine rAload_n dX7_health_0 rfl ?_
  refine rIload_n dX7_health_1 rfl ?_
  refine sCallSp (M' := mX7_isPlayer) (rm' := rmD 2 0 0) (As := [.int x]) (rest := [.ref (ad V m)]) dX7_health_2 rfl mk_X7_isPlayer ms_X7_isPlayer ll_X7_64 ⟨(Nat.le_of_ble_eq_true rfl), (Nat.le_of_ble_eq_true rfl)⟩ rfl (Nat.le_of_ble_eq_true rfl) (Nat.le_of_ble_eq_true rfl) (c_X7_isPlayer) rfl (Nat.le_of_ble_eq_true rfl) (fun wp ep => ?_)
  rcases ep with ⟨⟨p, hp, rfl⟩, rfl⟩ | ⟨np, rfl⟩
  · have ip : idx 4 (nI p) = some p := idx_nI hp (by decide)
    have yp : mpl s m p (hY h p) := hh.2.2.2 p hp
    have bdp : mrow s (m + 11) (m + 12) p 5 (pBrd (hY h p)) := yp.2.2.2.2.2.2.1
    have bnp : mrow s (m + 9) (m + 10) p 6 (pBen (hY h p)) := yp.2.2.2.2.2.2.2
    obtain ⟨o1p, o2p, o3p, o4p, o5p, o6p, o7p, o8p, o9p⟩ := hok.2.2.1 p hp
    have hF : (fAsk (fun z => nI (pHth z))) h (nI p) = (0, nI (pHth (hY h p)), h) := by simp only [fAsk, ip]
    rw [hF]
    refine r_if_eq (tgt := 12) dX7_health_5 (by decide) (fun c_5 => ?_) (fun c_5 => ?_)
    · have c_5 : 1 = 0 := (nz_eq (by omega)).mp c_5
      exact absurd c_5 (by omega)
    · have c_5 : ¬ (1 = 0) := fun h => c_5 ((nz_eq (by omega)).mpr h)
      refine rIconst (v := (nI (0))) dX7_health_8 (by decide) ?_
      refine rGoto (tgt := 13) dX7_health_9 (by decide) ?_
      refine sCallVi (M' := mX7_holds) (rm' := rmD 1 0 0) (As := [.int (nI 0)]) (rest := []) dX7_health_13 rfl mk_X7_holds mi_X7_holds ll_X7_71 ⟨(Nat.le_of_ble_eq_true rfl), (Nat.le_of_ble_eq_true rfl)⟩ hm.1 (by decide) rfl rfl (Nat.le_of_ble_eq_true rfl) (Nat.le_of_ble_eq_true rfl) (c_X7_holds hm (by omega)) rfl (Nat.le_of_ble_eq_true rfl) (fun v13 t13 e13 => ?_)
      obtain ⟨rfl, rfl⟩ := e13
      refine tTop (w := (nI (1))) (if_pos rfl) ?_
      refine r_if_eq (tgt := 28) dX7_health_16 (by decide) (fun c_16 => ?_) (fun c_16 => ?_)
      · have c_16 : 1 = 0 := (nz_eq (by omega)).mp c_16
        exact absurd c_16 (by omega)
      · have c_16 : ¬ (1 = 0) := fun h => c_16 ((nz_eq (by omega)).mpr h)
        refine rAload_n dX7_health_19 rfl ?_
        refine sGetR dX7_health_20 fl_X7_22 hm.1 (by decide) rfl ?_
        refine rIload_n dX7_health_23 rfl ?_
        refine nIald (v := (nI (pHth (hY h p)))) dX7_health_24 hm.2.2.2.2.2.1 (by omega) (by omega) (by rw [sw_a (by omega), yp.2.2.1]) ?_
        refine rGoto (tgt := 29) dX7_health_25 (by decide) ?_
        exact sIret dX7_health_29 rfl rfl (Nat.le_of_ble_eq_true rfl) (Nat.le_of_ble_eq_true rfl) ⟨_, rfl, ⟨sw_s, fun _ => rfl, modIs_thr hh, fun b hb => sw_a (by omega)⟩⟩
  · have ip := idx_not np
    have hF : (fAsk (fun z => nI (pHth z))) h x = (1, 0, h) := by simp only [fAsk, ip]
    rw [hF]
    refine r_if_eq (tgt := 12) dX7_health_5 (by decide) (fun c_5 => ?_) (fun c_5 => ?_)
    · have c_5 : 0 = 0 := (nz_eq (by omega)).mp c_5
      refine rIconst (v := (nI (1))) dX7_health_12 (by decide) ?_
      refine sCallVi (M' := mX7_holds) (rm' := rmD 1 0 0) (As := [.int (nI 1)]) (rest := []) dX7_health_13 rfl mk_X7_holds mi_X7_holds ll_X7_71 ⟨(Nat.le_of_ble_eq_true rfl), (Nat.le_of_ble_eq_true rfl)⟩ hm.1 (by decide) rfl rfl (Nat.le_of_ble_eq_true rfl) (Nat.le_of_ble_eq_true rfl) (c_X7_holds hm (by omega)) rfl (Nat.le_of_ble_eq_true rfl) (fun v13 t13 e13 => ?_)
      obtain ⟨rfl, rfl⟩ := e13
      refine tTop (w := (nI (0))) (if_neg (by decide)) ?_
      refine r_if_eq (tgt := 28) dX7_health_16 (by decide) (fun c_16 => ?_) (fun c_16 => ?_)
      · have c_16 : 0 = 0 := (nz_eq (by omega)).mp c_16
        refine rIconst (v := (nI (0))) dX7_health_28 (by decide) ?_
        exact sIret dX7_health_29 rfl rfl (Nat.le_of_ble_eq_true rfl) (Nat.le_of_ble_eq_true rfl) ⟨_, rfl, ⟨sw_s, fun e => absurd e (Nat.succ_ne_zero _), modIs_thr hh, fun b hb => sw_a (by omega)⟩⟩
      · have c_16 : ¬ (0 = 0) := fun h => c_16 ((nz_eq (by omega)).mpr h)
        exact absurd c_16 (by omega)
    · have c_5 : ¬ (0 = 0) := fun h => c_5 ((nz_eq (by omega)).mpr h)
      exact absurd c_5 (by omega)
set_option maxRecDepth 100000 in
set_option maxHeartbeats 4000000 in
theorem c_X7_streak {G : gG} {V : wV} {lo : Nat → Int64} {m : Nat} (hm : modAt V m) {s : sgT} {h : hT} (hh : modIs s m h) {B : Nat} (hok : hallOk B h) (hB : B ≤ 19000) {x : Int32} : CSi G V mX7_streak cX7_streak (rmD 9 0 0) [.ref (ad V m), .int x] s lo (fun v s' => mPost m s ((fAsk (fun z => pStk z)) h x) v s') (fun _ => False) := by
  refine CSi.of (L := [some (.ref (ad V m)), some (.int x)]) rfl (by decide +kernel) rfl (Nat.le_of_ble_eq_true rfl) rfl ?_
  refine rAload_n dX7_streak_0 rfl ?_
  refine rIload_n dX7_streak_1 rfl ?_
  refine sCallSp (M' := mX7_isPlayer) (rm' := rmD 2 0 0) (As := [.int x]) (rest := [.ref (ad V m)]) dX7_streak_2 rfl mk_X7_isPlayer ms_X7_isPlayer ll_X7_64 ⟨(Nat.le_of_ble_eq_true rfl), (Nat.le_of_ble_eq_true rfl)⟩ rfl (Nat.le_of_ble_eq_true rfl) (Nat.le_of_ble_eq_true rfl) (c_X7_isPlayer) rfl (Nat.le_of_ble_eq_true rfl) (fun wp ep => ?_)
  rcases ep with ⟨⟨p, hp, rfl⟩, rfl⟩ | ⟨np, rfl⟩
  · have ip : idx 4 (nI p) = some p := idx_nI hp (by decide)
    have yp : mpl s m p (hY h p) := hh.2.2.2 p hp
    have bdp : mrow s (m + 11) (m + 12) p 5 (pBrd (hY h p)) := yp.2.2.2.2.2.2.1
    have bnp : mrow s (m + 9) (m + 10) p 6 (pBen (hY h p)) := yp.2.2.2.2.2.2.2
    obtain ⟨o1p, o2p, o3p, o4p, o5p, o6p, o7p, o8p, o9p⟩ := hok.2.2.1 p hp
    have hF : (fAsk (fun z => pStk z)) h (nI p) = (0, pStk (hY h p), h) := by simp only [fAsk, ip]
    rw [hF]
    refine r_if_eq (tgt := 12) dX7_streak_5 (by decide) (fun c_5 => ?_) (fun c_5 => ?_)
    · have c_5 : 1 = 0 := (nz_eq (by omega)).mp c_5
      exact absurd c_5 (by omega)
    · have c_5 : ¬ (1 = 0) := fun h => c_5 ((nz_eq (by omega)).mpr h)
      refine rIconst (v := (nI (0))) dX7_streak_8 (by decide) ?_
      refine rGoto (tgt := 13) dX7_streak_9 (by decide) ?_
      refine sCallVi (M' := mX7_holds) (rm' := rmD 1 0 0) (As := [.int (nI 0)]) (rest := []) dX7_streak_13 rfl mk_X7_holds mi_X7_holds ll_X7_71 ⟨(Nat.le_of_ble_eq_true rfl), (Nat.le_of_ble_eq_true rfl)⟩ hm.1 (by decide) rfl rfl (Nat.le_of_ble_eq_true rfl) (Nat.le_of_ble_eq_true rfl) (c_X7_holds hm (by omega)) rfl (Nat.le_of_ble_eq_true rfl) (fun v13 t13 e13 => ?_)
      obtain ⟨rfl, rfl⟩ := e13
      refine tTop (w := (nI (1))) (if_pos rfl) ?_
      refine r_if_eq (tgt := 28) dX7_streak_16 (by decide) (fun c_16 => ?_) (fun c_16 => ?_)
      · have c_16 : 1 = 0 := (nz_eq (by omega)).mp c_16
        exact absurd c_16 (by omega)
      · have c_16 : ¬ (1 = 0) := fun h => c_16 ((nz_eq (by omega)).mpr h)
        refine rAload_n dX7_streak_19 rfl ?_
        refine sGetR dX7_streak_20 fl_X7_25 hm.1 (by decide) rfl ?_
        refine rIload_n dX7_streak_23 rfl ?_
        refine nIald (v := (pStk (hY h p))) dX7_streak_24 hm.2.2.2.2.2.2.1 (by omega) (by omega) (by rw [sw_a (by omega), yp.2.2.2.1]) ?_
        refine rGoto (tgt := 29) dX7_streak_25 (by decide) ?_
        exact sIret dX7_streak_29 rfl rfl (Nat.le_of_ble_eq_true rfl) (Nat.le_of_ble_eq_true rfl) ⟨_, rfl, ⟨sw_s, fun _ => rfl, modIs_thr hh, fun b hb => sw_a (by omega)⟩⟩
  · have ip := idx_not np
    have hF : (fAsk (fun z => pStk z)) h x = (1, 0, h) := by simp only [fAsk, ip]
    rw [hF]
    refine r_if_eq (tgt := 12) dX7_streak_5 (by decide) (fun c_5 => ?_) (fun c_5 => ?_)
    · have c_5 : 0 = 0 := (nz_eq (by omega)).mp c_5
      refine rIconst (v := (nI (1))) dX7_streak_12 (by decide) ?_
      refine sCallVi (M' := mX7_holds) (rm' := rmD 1 0 0) (As := [.int (nI 1)]) (rest := []) dX7_streak_13 rfl mk_X7_holds mi_X7_holds ll_X7_71 ⟨(Nat.le_of_ble_eq_true rfl), (Nat.le_of_ble_eq_true rfl)⟩ hm.1 (by decide) rfl rfl (Nat.le_of_ble_eq_true rfl) (Nat.le_of_ble_eq_true rfl) (c_X7_holds hm (by omega)) rfl (Nat.le_of_ble_eq_true rfl) (fun v13 t13 e13 => ?_)
      obtain ⟨rfl, rfl⟩ := e13
      refine tTop (w := (nI (0))) (if_neg (by decide)) ?_
      refine r_if_eq (tgt := 28) dX7_streak_16 (by decide) (fun c_16 => ?_) (fun c_16 => ?_)
      · have c_16 : 0 = 0 := (nz_eq (by omega)).mp c_16
        refine rIconst (v := (nI (0))) dX7_streak_28 (by decide) ?_
        exact sIret dX7_streak_29 rfl rfl (Nat.le_of_ble_eq_true rfl) (Nat.le_of_ble_eq_true rfl) ⟨_, rfl, ⟨sw_s, fun e => absurd e (Nat.succ_ne_zero _), modIs_thr hh, fun b hb => sw_a (by omega)⟩⟩
      · have c_16 : ¬ (0 = 0) := fun h => c_16 ((nz_eq (by omega)).mpr h)
        exact absurd c_16 (by omega)
    · have c_5 : ¬ (0 = 0) := fun h => c_5 ((nz_eq (by omega)).mpr h)
      exact absurd c_5 (by omega)
