/-! the constructors of the reference and of the hall: the world as a table (by program) -/
def tab (n : Nat) (f : Nat → Nat × va_E) : va_W := (List.range n).map f
theorem tab_len {n : Nat} {f : Nat → Nat × va_E} : (tab n f).length = n := by unfold tab; rw [List.length_map, List.length_range]
theorem tab_get {n i : Nat} {f : Nat → Nat × va_E} (h : i < n) : (tab n f)[i]? = some (f i) := by
  unfold tab
  rw [List.getElem?_map, List.getElem?_range h]
  rfl
theorem tab_no {n i : Nat} {f : Nat → Nat × va_E} (h : ¬ i < n) : (tab n f)[i]? = none := List.getElem?_eq_none (by rw [tab_len]; omega)
theorem tab_set {n i : Nat} {f : Nat → Nat × va_E} {x : Nat × va_E} (h : i < n) : (tab n f).set i x = tab n (va_up f i x) := by
  apply List.ext_getElem?
  intro j
  by_cases e : j = i
  · subst e
    rw [List.getElem?_set_self (by rw [tab_len]; exact h), tab_get h]
    simp [va_up]
  · rw [List.getElem?_set_ne (Ne.symm e)]
    by_cases hl : j < n
    · rw [tab_get hl, tab_get hl]
      simp [va_up, e]
    · rw [tab_no hl, tab_no hl]
theorem tab_cat {n n' : Nat} {f : Nat → Nat × va_E} {l : va_W} (h : n + l.length = n') : tab n f ++ l = tab n' (fun k => if k < n then f k else l.getD (k - n) (0, .inr (0, []))) := by
  subst h
  apply List.ext_getElem?
  intro j
  by_cases hj : j < n
  · rw [List.getElem?_append_left (by rw [tab_len]; exact hj), tab_get hj, tab_get (by omega), if_pos hj]
  · rw [List.getElem?_append_right (by rw [tab_len]; omega), tab_len]
    by_cases h2 : j < n + l.length
    · rw [tab_get h2, if_neg hj, List.getD_eq_getElem?_getD, List.getElem?_eq_getElem (by omega)]
      rfl
    · rw [tab_no h2, List.getElem?_eq_none (by omega)]
theorem tab_app {n n' : Nat} {f : Nat → Nat × va_E} {x : Nat × va_E} (h : n + 1 = n') : tab n f ++ [x] = tab n' (va_up f n x) := by
  rw [tab_cat (l := [x]) h]
  unfold tab
  apply List.map_congr_left
  intro k hk
  have hk : k < n' := List.mem_range.mp hk
  by_cases e : k = n
  · subst e
    simp [va_up]
  · have : k < n := by omega
    simp [va_up, e, this]
theorem tab_open {n n' : Nat} {f : Nat → Nat × va_E} (h : n + 1 = n') : tab n' f = tab n f ++ [f n] := by
  subst h
  unfold tab
  rw [List.range_succ, List.map_append]
  rfl
theorem tab_ext {n : Nat} {f g : Nat → Nat × va_E} (h : ∀ k, k < n → f k = g k) : tab n f = tab n g := List.map_congr_left (fun k hk => h k (List.mem_range.mp hk))
theorem all_s {P : Nat → Prop} {n n' : Nat} (hn : n + 1 = n') (h : ∀ k, k < n → P k) (h1 : P n) : ∀ k, k < n' → P k := by
  intro k hk
  by_cases e : k = n
  · rw [e]
    exact h1
  · exact h k (by omega)
theorem all_0 {P : Nat → Prop} : ∀ k, k < 0 → P k := fun k hk => absurd hk (Nat.not_lt_zero k)
section gT
variable {G : gG} {M : mT} {cc : ByteArray} {rm : Room} {QF : Array Value → State → List Frame → State → Prop} {pc : Nat} {L : List (Option Value)} {st : List Value} {pre : va_W} {f : Nat → Nat × va_E} {m m' cells slots : Nat} {a idx ci k N : Nat} {C : String} {T : u_T} {ty : Nat → FieldType} {fs fs' : List Value}
theorem vu_s {g : Nat → Nat × va_E} {i : Nat} {x : Nat × va_E} : va_up g i x i = x := by simp [va_up]
theorem vu_n {g : Nat → Nat × va_E} {i : Nat} {x : Nat × va_E} : ∀ j, j ≠ i → va_up g i x j = g j := fun j h => by simp [va_up, h]
/-- the new table g: x at i, the rest as in f -/
def gUp (f : Nat → Nat × va_E) (i : Nat) (x : Nat × va_E) (g : Nat → Nat × va_E) : Prop := g i = x ∧ ∀ j, j ≠ i → g j = f j
theorem gUp.s {f g : Nat → Nat × va_E} {i : Nat} {x : Nat × va_E} (h : gUp f i x g) : g i = x := h.1
theorem gUp.n {f g : Nat → Nat × va_E} {i j : Nat} {x v : Nat × va_E} (h : gUp f i x g) (hj : Nat.beq j i = false) (e : f j = v) : g j = v := (h.2 j (Nat.ne_of_beq_eq_false hj)).trans e
theorem gUp.of {f : Nat → Nat × va_E} {i : Nat} {x : Nat × va_E} : gUp f i x (va_up f i x) := ⟨vu_s, vu_n⟩
theorem tNew (hd : decode cc pc = .ok (.new idx, 3)) (hc : vwCl[ci]? = some (C, T, N)) (hin : ∀ w ∈ u_ws C T N, w ∈ gWds) (hcl : Cond.classLink (mO M) idx C ∈ gWds) (hins : Cond.instantiable C N ∈ gWds) (hini : Cond.initialized C ∈ gWds) (ht : fTy C T N ty) (hfs : ∀ j, j < N → defaultValue (ty j) = vp_V fs j) (hcs : cells + 1 ≤ rm.cells) (hsl : slots + N ≤ rm.slots) (hm : m + 1 = m') (kk : ∀ (q : Nat) (g : Nat → Nat × va_E), gUp f m (q, .inr (ci, fs)) g → RW G M cc rm QF (pc + 3) L (.ref q :: st) (pre ++ tab m' g) (cells + 1) (slots + N)) : RW G M cc rm QF pc L st (pre ++ tab m f) cells slots :=
  rNew hd hc hin hcl hins hini ht hfs hcs hsl (fun q => by rw [List.append_assoc, tab_app hm]; exact kk q _ gUp.of)
theorem tNewI {n : Int32} (hd : decode cc pc = .ok (.newarray .int, 2)) (hn : ¬ n < 0) (hN : n.toNatClampNeg = N) (hb : N * 4 ≤ 536870912) (hcs : cells + 1 ≤ rm.cells) (hsl : slots + N ≤ rm.slots) (hm : m + 1 = m') (kk : ∀ (q : Nat) (g : Nat → Nat × va_E), gUp f m (q, .inl (gcy G 0, N, .inl (fun _ => 0))) g → RW G M cc rm QF (pc + 2) L (.ref q :: st) (pre ++ tab m' g) (cells + 1) (slots + N)) : RW G M cc rm QF pc L (.int n :: st) (pre ++ tab m f) cells slots :=
  rNewI hd wd_aint hn hN hb hcs hsl (fun q => by rw [List.append_assoc, tab_app hm]; exact kk q _ gUp.of)
theorem tNewZ {n : Int32} (hd : decode cc pc = .ok (.newarray .boolean, 2)) (hn : ¬ n < 0) (hN : n.toNatClampNeg = N) (hb : N ≤ 536870912) (hcs : cells + 1 ≤ rm.cells) (hsl : slots + N ≤ rm.slots) (hm : m + 1 = m') (kk : ∀ (q : Nat) (g : Nat → Nat × va_E), gUp f m (q, .inl (gcy G 1, N, .inl (fun _ => 0))) g → RW G M cc rm QF (pc + 2) L (.ref q :: st) (pre ++ tab m' g) (cells + 1) (slots + N)) : RW G M cc rm QF pc L (.int n :: st) (pre ++ tab m f) cells slots :=
  rNewZ hd wd_aboolean hn hN (by omega) hcs hsl (fun q => by rw [List.append_assoc, tab_app hm]; exact kk q _ gUp.of)
theorem tNewP {n : Int32} (hd : decode cc pc = .ok (.anewarray idx, 3)) (hcl : Cond.classLink (mO M) idx RX2 ∈ gWds) (hn : ¬ n < 0) (hN : n.toNatClampNeg = N) (hb : N * 4 ≤ 536870912) (hcs : cells + 1 ≤ rm.cells) (hsl : slots + N ≤ rm.slots) (hm : m + 1 = m') (kk : ∀ (q : Nat) (g : Nat → Nat × va_E), gUp f m (q, .inl (gcy G 2, N, .inr (.inr (.inr (.inr (fun _ => none)))))) g → RW G M cc rm QF (pc + 3) L (.ref q :: st) (pre ++ tab m' g) (cells + 1) (slots + N)) : RW G M cc rm QF pc L (.int n :: st) (pre ++ tab m f) cells slots :=
  rNewP hd hcl hn hN hb hcs hsl (fun q => by rw [List.append_assoc, tab_app hm]; exact kk q _ gUp.of)
theorem tq_at {q : Nat} {x : Nat × va_E} (hq : q < m) (he : f q = x) : (pre ++ tab m f)[pre.length + q]? = some x := wget.trans ((tab_get hq).trans (congrArg some he))
theorem tq_set {q : Nat} {x : Nat × va_E} (hq : q < m) : (pre ++ tab m f).set (pre.length + q) x = pre ++ tab m (va_up f q x) := by rw [wset, tab_set hq]
theorem tPutF {v : Value} (q : Nat) (he : f q = (a, .inr (ci, fs))) (hd : decode cc pc = .ok (.putfield idx, 3)) (hf : fLk (mO M) idx ci k C T N) (hg : Cond.fieldLink (mO M) idx (T k).1 (T k).2.1 (T k).2.2.1 ∈ gWds) (ht : fTy C T N ty) (hfin : (T k).2.2.2 = true) (hnm : M.2.1 = "<init>") (hdc : (T k).1 = mO M) (hq : q < m) (hn : narrow (ty k) v = v) (hfit : fits (ty k) v = true) (hl : k < fs.length) (hs : fs.set k v = fs') (kk : ∀ g : Nat → Nat × va_E, gUp f q (a, .inr (ci, fs')) g → RW G M cc rm QF (pc + 3) L st (pre ++ tab m g) cells slots) : RW G M cc rm QF pc L (v :: .ref a :: st) (pre ++ tab m f) cells slots :=
  rPutF hd hf hg ht hfin hnm hdc (pre.length + q) (tq_at hq he) hn hfit hl (by rw [tq_set hq, hs]; exact kk _ gUp.of)
theorem tPut {v : Value} (q : Nat) (he : f q = (a, .inr (ci, fs))) (hd : decode cc pc = .ok (.putfield idx, 3)) (hf : fLk (mO M) idx ci k C T N) (ht : fTy C T N ty) (hfin : (T k).2.2.2 = false) (hq : q < m) (hn : narrow (ty k) v = v) (hfit : fits (ty k) v = true) (hl : k < fs.length) (hs : fs.set k v = fs') (kk : ∀ g : Nat → Nat × va_E, gUp f q (a, .inr (ci, fs')) g → RW G M cc rm QF (pc + 3) L st (pre ++ tab m g) cells slots) : RW G M cc rm QF pc L (v :: .ref a :: st) (pre ++ tab m f) cells slots :=
  rPut hd hf ht hfin (pre.length + q) (tq_at hq he) hn hfit hl (by rw [tq_set hq, hs]; exact kk _ gUp.of)
theorem tGet {v : Value} (q : Nat) (he : f q = (a, .inr (ci, fs))) (hd : decode cc pc = .ok (.getfield idx, 3)) (hf : fLk (mO M) idx ci k C T N) (hq : q < m) (hv : fs[k]? = some v) (kk : RW G M cc rm QF (pc + 3) L (v :: st) (pre ++ tab m f) cells slots) : RW G M cc rm QF pc L (.ref a :: st) (pre ++ tab m f) cells slots :=
  rGet hd hf (pre.length + q) (tq_at hq he) hv kk
theorem tIast {n : Nat} {h : Nat → Int32} {i : Nat} {x : Int32} (q : Nat) (he : f q = (a, .inl (gcy G 0, n, .inl h))) (hd : decode cc pc = .ok (.iastore, 1)) (hq : q < m) (hi : i < n) (hn : n < 2 ^ 31) (kk : ∀ g : Nat → Nat × va_E, gUp f q (a, .inl (gcy G 0, n, .inl (upd h i x))) g → RW G M cc rm QF (pc + 1) L st (pre ++ tab m g) cells slots) : RW G M cc rm QF pc L (.int x :: .int (nI i) :: .ref a :: st) (pre ++ tab m f) cells slots :=
  rIast hd (pre.length + q) (tq_at hq he) (vp_in_nI hi hn) (by rw [tq_set hq, nI_clamp (by omega)]; exact kk _ gUp.of)
theorem tAast {n b i : Nat} {h : Nat → Option Nat} {T : u_T} {N : Nat} (q qk : Nat) (he : f q = (a, .inl (gcy G 2, n, .inr (.inr (.inr (.inr h)))))) (hv : f qk = (b, .inr (ci, fs))) (hd : decode cc pc = .ok (.aastore, 1)) (hq : q < m) (hqk : qk < m) (hc : vwCl[ci]? = some (RX2, T, N)) (hi : i < n) (hn : n < 2 ^ 31) (kk : ∀ g : Nat → Nat × va_E, gUp f q (a, .inl (gcy G 2, n, .inr (.inr (.inr (.inr (va_up h i (some b))))))) g → RW G M cc rm QF (pc + 1) L st (pre ++ tab m g) cells slots) : RW G M cc rm QF pc L (.ref b :: .int (nI i) :: .ref a :: st) (pre ++ tab m f) cells slots :=
  rAast hd (pre.length + q) (pre.length + qk) (tq_at hq he) (tq_at hqk hv) hc (vp_in_nI hi hn) (by rw [tq_set hq, nI_clamp (by omega)]; exact kk _ gUp.of)
/-- ahead of a call of a constructor: the new object stands alone behind -/
theorem tCut {e : Nat × va_E} (hm : m + 1 = m') (he : f m = e) (kk : RW G M cc rm QF pc L st ((pre ++ tab m f) ++ [e]) cells slots) : RW G M cc rm QF pc L st (pre ++ tab m' f) cells slots := by
  rw [tab_open hm, ← List.append_assoc, he]
  exact kk
/-- behind it -/
def gJo (f : Nat → Nat × va_E) (m : Nat) (l : va_W) (g : Nat → Nat × va_E) : Prop := ∀ j, g j = if j < m then f j else l.getD (j - m) (0, .inr (0, []))
theorem gJo.o {f g : Nat → Nat × va_E} {m j : Nat} {l : va_W} {v : Nat × va_E} (h : gJo f m l g) (hj : j < m) (e : f j = v) : g j = v := by rw [h j, if_pos hj]; exact e
theorem gJo.l {f g : Nat → Nat × va_E} {m j : Nat} {l : va_W} {v : Nat × va_E} (h : gJo f m l g) (hj : m ≤ j) (e : l.getD (j - m) (0, .inr (0, [])) = v) : g j = v := by rw [h j, if_neg (Nat.not_lt.mpr hj)]; exact e
theorem tJoin {l : va_W} (hm : m + l.length = m') (kk : ∀ g : Nat → Nat × va_E, gJo f m l g → RW G M cc rm QF pc L st (pre ++ tab m' g) cells slots) : RW G M cc rm QF pc L st ((pre ++ tab m f) ++ l) cells slots := by
  rw [List.append_assoc, tab_cat hm]
  exact kk _ (fun j => rfl)
end gT
theorem hg_X7_7 : Cond.fieldLink RX7 7 (TX7 4).1 (TX7 4).2.1 (TX7 4).2.2.1 ∈ gWds := gMem (i := 643) (by decide +kernel) (by rfl)
theorem hg_X7_13 : Cond.fieldLink RX7 13 (TX7 5).1 (TX7 5).2.1 (TX7 5).2.2.1 ∈ gWds := gMem (i := 644) (by decide +kernel) (by rfl)
theorem hg_X7_16 : Cond.fieldLink RX7 16 (TX7 6).1 (TX7 6).2.1 (TX7 6).2.2.1 ∈ gWds := gMem (i := 645) (by decide +kernel) (by rfl)
theorem hg_X7_19 : Cond.fieldLink RX7 19 (TX7 7).1 (TX7 7).2.1 (TX7 7).2.2.1 ∈ gWds := gMem (i := 646) (by decide +kernel) (by rfl)
theorem hg_X7_22 : Cond.fieldLink RX7 22 (TX7 8).1 (TX7 8).2.1 (TX7 8).2.2.1 ∈ gWds := gMem (i := 647) (by decide +kernel) (by rfl)
theorem hg_X7_25 : Cond.fieldLink RX7 25 (TX7 9).1 (TX7 9).2.1 (TX7 9).2.2.1 ∈ gWds := gMem (i := 648) (by decide +kernel) (by rfl)
theorem hg_X7_28 : Cond.fieldLink RX7 28 (TX7 10).1 (TX7 10).2.1 (TX7 10).2.2.1 ∈ gWds := gMem (i := 649) (by decide +kernel) (by rfl)
theorem hg_X7_31 : Cond.fieldLink RX7 31 (TX7 11).1 (TX7 11).2.1 (TX7 11).2.2.1 ∈ gWds := gMem (i := 650) (by decide +kernel) (by rfl)
theorem hg_X7_35 : Cond.fieldLink RX7 35 (TX7 12).1 (TX7 12).2.1 (TX7 12).2.2.1 ∈ gWds := gMem (i := 651) (by decide +kernel) (by rfl)
theorem hg_X7_38 : Cond.fieldLink RX7 38 (TX7 13).1 (TX7 13).2.1 (TX7 13).2.2.1 ∈ gWds := gMem (i := 652) (by decide +kernel) (by rfl)
theorem hg_X7_41 : Cond.fieldLink RX7 41 (TX7 14).1 (TX7 14).2.1 (TX7 14).2.2.1 ∈ gWds := gMem (i := 653) (by decide +kernel) (by rfl)
theorem hg_X7_44 : Cond.fieldLink RX7 44 (TX7 15).1 (TX7 15).2.1 (TX7 15).2.2.1 ∈ gWds := gMem (i := 654) (by decide +kernel) (by rfl)
theorem hg_X7_47 : Cond.fieldLink RX7 47 (TX7 16).1 (TX7 16).2.1 (TX7 16).2.2.1 ∈ gWds := gMem (i := 655) (by decide +kernel) (by rfl)
theorem hg_X7_50 : Cond.fieldLink RX7 50 (TX7 17).1 (TX7 17).2.1 (TX7 17).2.2.1 ∈ gWds := gMem (i := 656) (by decide +kernel) (by rfl)
theorem hg_X7_53 : Cond.fieldLink RX7 53 (TX7 18).1 (TX7 18).2.1 (TX7 18).2.2.1 ∈ gWds := gMem (i := 657) (by decide +kernel) (by rfl)
def cM7 (G : gG) (ad : Nat → Nat) (k : Nat) : va_E := (.inr (7, [.int 0, .int 0, .int 0, .int 0, .ref (ad 1), .ref (ad 2), .ref (ad 3), .ref (ad 4), .ref (ad 5), .ref (ad 6), .ref (ad 7), .ref (ad 8), .ref (ad 9), .ref (ad 10), .ref (ad 11), .ref (ad 12), .ref (ad 13), .ref (ad 14), .ref (ad 15)]) :: .inl (gcy G 0, 100, .inl (fun _ => 0)) :: .inl (gcy G 0, 9, .inl (upd (upd (upd (upd (upd (upd (upd (upd (upd (fun _ => 0) 0 (nI 9)) 1 (nI 9)) 2 (nI 9)) 3 (nI 9)) 4 (nI 9)) 5 (nI 9)) 6 (nI 9)) 7 (nI 9)) 8 (nI 9))) :: .inl (gcy G 0, 4, .inl (upd (upd (upd (upd (fun _ => 0) 0 (nI 10)) 1 (nI 10)) 2 (nI 10)) 3 (nI 10))) :: .inl (gcy G 0, 4, .inl (upd (upd (upd (upd (fun _ => 0) 0 (nI 1)) 1 (nI 1)) 2 (nI 1)) 3 (nI 1))) :: .inl (gcy G 0, 4, .inl (upd (upd (upd (upd (fun _ => 0) 0 (nI 20)) 1 (nI 20)) 2 (nI 20)) 3 (nI 20))) :: .inl (gcy G 0, 4, .inl (fun _ => 0)) :: .inl (gcy G 0, 12, .inl (upd (upd (upd (upd (upd (upd (upd (upd (upd (upd (upd (upd (fun _ => 0) 0 (-1)) 1 (-1)) 2 (-1)) 3 (-1)) 4 (-1)) 5 (-1)) 6 (-1)) 7 (-1)) 8 (-1)) 9 (-1)) 10 (-1)) 11 (-1))) :: .inl (gcy G 1, 4, .inl (fun _ => 0)) :: .inl (gcy G 0, 4, .inl (fun _ => 0)) :: .inl (gcy G 0, 24, .inl (fun _ => 0)) :: .inl (gcy G 0, 4, .inl (fun _ => 0)) :: .inl (gcy G 0, 20, .inl (fun _ => 0)) :: .inl (gcy G 0, 2, .inl (fun _ => 0)) :: .inl (gcy G 0, 2, .inl (fun _ => 0)) :: .inl (gcy G 0, 10, .inl (fun _ => 0)) :: [] : List va_E).getD k (.inr (0, []))
set_option maxRecDepth 100000 in
set_option maxHeartbeats 40000000 in
theorem i_X7 {G : gG} {pre : va_W} {a : Nat} : CT G mX7_init cX7_init (rmD 2 15 400) [.ref a] (pre ++ tab 1 (fun _ => (a, .inr (7, [.int 0, .int 0, .int 0, .int 0, .null, .null, .null, .null, .null, .null, .null, .null, .null, .null, .null, .null, .null, .null, .null])))) (fun v w => v = none ∧ ∃ (ad : Nat → Nat) (f : Nat → Nat × va_E), ad 0 = a ∧ w = pre ++ tab 16 f ∧ ∀ k, k < 16 → f k = (ad k, cM7 G ad k)) (fun _ _ => False) := by
  refine CT.of rfl (by decide +kernel) (by intro v hv; simp only [List.mem_cons, List.not_mem_nil, or_false] at hv; rcases hv with rfl <;> rfl) (Nat.le_of_ble_eq_true rfl) ?_
  show RW G _ _ _ _ 0 [some (.ref a), none] [] _ 0 0
  obtain ⟨f0, hf0⟩ : ∃ f0 : Nat → Nat × va_E, f0 = fun _ => (a, .inr (7, [.int 0, .int 0, .int 0, .int 0, .null, .null, .null, .null, .null, .null, .null, .null, .null, .null, .null, .null, .null, .null, .null])) := ⟨_, rfl⟩
  rw [← hf0]
  have e0_0 : f0 0 = (a, .inr (7, [.int 0, .int 0, .int 0, .int 0, .null, .null, .null, .null, .null, .null, .null, .null, .null, .null, .null, .null, .null, .null, .null])) := by rw [hf0]
  refine rAload_n dX7_init_0 rfl ?_
  refine rObjInit dX7_init_1 lo_X7_1 wd_oi wd_oc (Nat.le_of_ble_eq_true rfl) (Nat.le_of_ble_eq_true rfl) ?_
  refine rAload_n dX7_init_4 rfl ?_
  refine rBipush (v := nI 100) dX7_init_5 (by decide) ?_
  refine tNewI (N := 100) dX7_init_7 (by decide) (by decide) (by decide) (Nat.le_of_ble_eq_true rfl) (Nat.le_of_ble_eq_true rfl) rfl (fun q0 f1 u1 => ?_)
  have e1_1 := u1.s
  have e0_1 : f1 0 = (a, .inr (7, [.int 0, .int 0, .int 0, .int 0, .null, .null, .null, .null, .null, .null, .null, .null, .null, .null, .null, .null, .null, .null, .null])) := (u1.n rfl e0_0)
  refine tPutF (fs' := (.int 0 :: .int 0 :: .int 0 :: .int 0 :: .ref q0 :: .null :: .null :: .null :: .null :: .null :: .null :: .null :: .null :: .null :: .null :: .null :: .null :: .null :: .null :: [] : List Value)) 0 e0_1 dX7_init_9 fl_X7_7 hg_X7_7 ft_X7 rfl rfl rfl (Nat.le_of_ble_eq_true rfl) rfl rfl (Nat.le_of_ble_eq_true rfl) rfl (fun f2 u2 => ?_)
  have e0_2 := u2.s
  refine rAload_n dX7_init_12 rfl ?_
  refine rBipush (v := nI 9) dX7_init_13 (by decide) ?_
  refine tNewI (N := 9) dX7_init_15 (by decide) (by decide) (by decide) (Nat.le_of_ble_eq_true rfl) (Nat.le_of_ble_eq_true rfl) rfl (fun q1 f3 u3 => ?_)
  have e2_3 := u3.s
  have e0_3 : f3 0 = (a, .inr (7, [.int 0, .int 0, .int 0, .int 0, .ref q0, .null, .null, .null, .null, .null, .null, .null, .null, .null, .null, .null, .null, .null, .null])) := (u3.n rfl e0_2)
  refine tPutF (fs' := (.int 0 :: .int 0 :: .int 0 :: .int 0 :: .ref q0 :: .ref q1 :: .null :: .null :: .null :: .null :: .null :: .null :: .null :: .null :: .null :: .null :: .null :: .null :: .null :: [] : List Value)) 0 e0_3 dX7_init_17 fl_X7_13 hg_X7_13 ft_X7 rfl rfl rfl (Nat.le_of_ble_eq_true rfl) rfl rfl (Nat.le_of_ble_eq_true rfl) rfl (fun f4 u4 => ?_)
  have e0_4 := u4.s
  refine rAload_n dX7_init_20 rfl ?_
  refine rIconst (v := nI 4) dX7_init_21 (by decide) ?_
  refine tNewI (N := 4) dX7_init_22 (by decide) (by decide) (by decide) (Nat.le_of_ble_eq_true rfl) (Nat.le_of_ble_eq_true rfl) rfl (fun q2 f5 u5 => ?_)
  have e3_5 := u5.s
  have e0_5 : f5 0 = (a, .inr (7, [.int 0, .int 0, .int 0, .int 0, .ref q0, .ref q1, .null, .null, .null, .null, .null, .null, .null, .null, .null, .null, .null, .null, .null])) := (u5.n rfl e0_4)
  refine tPutF (fs' := (.int 0 :: .int 0 :: .int 0 :: .int 0 :: .ref q0 :: .ref q1 :: .ref q2 :: .null :: .null :: .null :: .null :: .null :: .null :: .null :: .null :: .null :: .null :: .null :: .null :: [] : List Value)) 0 e0_5 dX7_init_24 fl_X7_16 hg_X7_16 ft_X7 rfl rfl rfl (Nat.le_of_ble_eq_true rfl) rfl rfl (Nat.le_of_ble_eq_true rfl) rfl (fun f6 u6 => ?_)
  have e0_6 := u6.s
  refine rAload_n dX7_init_27 rfl ?_
  refine rIconst (v := nI 4) dX7_init_28 (by decide) ?_
  refine tNewI (N := 4) dX7_init_29 (by decide) (by decide) (by decide) (Nat.le_of_ble_eq_true rfl) (Nat.le_of_ble_eq_true rfl) rfl (fun q3 f7 u7 => ?_)
  have e4_7 := u7.s
  have e0_7 : f7 0 = (a, .inr (7, [.int 0, .int 0, .int 0, .int 0, .ref q0, .ref q1, .ref q2, .null, .null, .null, .null, .null, .null, .null, .null, .null, .null, .null, .null])) := (u7.n rfl e0_6)
  refine tPutF (fs' := (.int 0 :: .int 0 :: .int 0 :: .int 0 :: .ref q0 :: .ref q1 :: .ref q2 :: .ref q3 :: .null :: .null :: .null :: .null :: .null :: .null :: .null :: .null :: .null :: .null :: .null :: [] : List Value)) 0 e0_7 dX7_init_31 fl_X7_19 hg_X7_19 ft_X7 rfl rfl rfl (Nat.le_of_ble_eq_true rfl) rfl rfl (Nat.le_of_ble_eq_true rfl) rfl (fun f8 u8 => ?_)
  have e0_8 := u8.s
  refine rAload_n dX7_init_34 rfl ?_
  refine rIconst (v := nI 4) dX7_init_35 (by decide) ?_
  refine tNewI (N := 4) dX7_init_36 (by decide) (by decide) (by decide) (Nat.le_of_ble_eq_true rfl) (Nat.le_of_ble_eq_true rfl) rfl (fun q4 f9 u9 => ?_)
  have e5_9 := u9.s
  have e0_9 : f9 0 = (a, .inr (7, [.int 0, .int 0, .int 0, .int 0, .ref q0, .ref q1, .ref q2, .ref q3, .null, .null, .null, .null, .null, .null, .null, .null, .null, .null, .null])) := (u9.n rfl e0_8)
  refine tPutF (fs' := (.int 0 :: .int 0 :: .int 0 :: .int 0 :: .ref q0 :: .ref q1 :: .ref q2 :: .ref q3 :: .ref q4 :: .null :: .null :: .null :: .null :: .null :: .null :: .null :: .null :: .null :: .null :: [] : List Value)) 0 e0_9 dX7_init_38 fl_X7_22 hg_X7_22 ft_X7 rfl rfl rfl (Nat.le_of_ble_eq_true rfl) rfl rfl (Nat.le_of_ble_eq_true rfl) rfl (fun f10 u10 => ?_)
  have e0_10 := u10.s
  refine rAload_n dX7_init_41 rfl ?_
  refine rIconst (v := nI 4) dX7_init_42 (by decide) ?_
  refine tNewI (N := 4) dX7_init_43 (by decide) (by decide) (by decide) (Nat.le_of_ble_eq_true rfl) (Nat.le_of_ble_eq_true rfl) rfl (fun q5 f11 u11 => ?_)
  have e6_11 := u11.s
  have e0_11 : f11 0 = (a, .inr (7, [.int 0, .int 0, .int 0, .int 0, .ref q0, .ref q1, .ref q2, .ref q3, .ref q4, .null, .null, .null, .null, .null, .null, .null, .null, .null, .null])) := (u11.n rfl e0_10)
  refine tPutF (fs' := (.int 0 :: .int 0 :: .int 0 :: .int 0 :: .ref q0 :: .ref q1 :: .ref q2 :: .ref q3 :: .ref q4 :: .ref q5 :: .null :: .null :: .null :: .null :: .null :: .null :: .null :: .null :: .null :: [] : List Value)) 0 e0_11 dX7_init_45 fl_X7_25 hg_X7_25 ft_X7 rfl rfl rfl (Nat.le_of_ble_eq_true rfl) rfl rfl (Nat.le_of_ble_eq_true rfl) rfl (fun f12 u12 => ?_)
  have e0_12 := u12.s
  refine rAload_n dX7_init_48 rfl ?_
  refine rBipush (v := nI 12) dX7_init_49 (by decide) ?_
  refine tNewI (N := 12) dX7_init_51 (by decide) (by decide) (by decide) (Nat.le_of_ble_eq_true rfl) (Nat.le_of_ble_eq_true rfl) rfl (fun q6 f13 u13 => ?_)
  have e7_13 := u13.s
  have e0_13 : f13 0 = (a, .inr (7, [.int 0, .int 0, .int 0, .int 0, .ref q0, .ref q1, .ref q2, .ref q3, .ref q4, .ref q5, .null, .null, .null, .null, .null, .null, .null, .null, .null])) := (u13.n rfl e0_12)
  refine tPutF (fs' := (.int 0 :: .int 0 :: .int 0 :: .int 0 :: .ref q0 :: .ref q1 :: .ref q2 :: .ref q3 :: .ref q4 :: .ref q5 :: .ref q6 :: .null :: .null :: .null :: .null :: .null :: .null :: .null :: .null :: [] : List Value)) 0 e0_13 dX7_init_53 fl_X7_28 hg_X7_28 ft_X7 rfl rfl rfl (Nat.le_of_ble_eq_true rfl) rfl rfl (Nat.le_of_ble_eq_true rfl) rfl (fun f14 u14 => ?_)
  have e0_14 := u14.s
  refine rAload_n dX7_init_56 rfl ?_
  refine rIconst (v := nI 4) dX7_init_57 (by decide) ?_
  refine tNewZ (N := 4) dX7_init_58 (by decide) (by decide) (by decide) (Nat.le_of_ble_eq_true rfl) (Nat.le_of_ble_eq_true rfl) rfl (fun q7 f15 u15 => ?_)
  have e8_15 := u15.s
  have e0_15 : f15 0 = (a, .inr (7, [.int 0, .int 0, .int 0, .int 0, .ref q0, .ref q1, .ref q2, .ref q3, .ref q4, .ref q5, .ref q6, .null, .null, .null, .null, .null, .null, .null, .null])) := (u15.n rfl e0_14)
  refine tPutF (fs' := (.int 0 :: .int 0 :: .int 0 :: .int 0 :: .ref q0 :: .ref q1 :: .ref q2 :: .ref q3 :: .ref q4 :: .ref q5 :: .ref q6 :: .ref q7 :: .null :: .null :: .null :: .null :: .null :: .null :: .null :: [] : List Value)) 0 e0_15 dX7_init_60 fl_X7_31 hg_X7_31 ft_X7 rfl rfl rfl (Nat.le_of_ble_eq_true rfl) rfl rfl (Nat.le_of_ble_eq_true rfl) rfl (fun f16 u16 => ?_)
  have e0_16 := u16.s
  refine rAload_n dX7_init_63 rfl ?_
  refine rIconst (v := nI 4) dX7_init_64 (by decide) ?_
  refine tNewI (N := 4) dX7_init_65 (by decide) (by decide) (by decide) (Nat.le_of_ble_eq_true rfl) (Nat.le_of_ble_eq_true rfl) rfl (fun q8 f17 u17 => ?_)
  have e9_17 := u17.s
  have e0_17 : f17 0 = (a, .inr (7, [.int 0, .int 0, .int 0, .int 0, .ref q0, .ref q1, .ref q2, .ref q3, .ref q4, .ref q5, .ref q6, .ref q7, .null, .null, .null, .null, .null, .null, .null])) := (u17.n rfl e0_16)
  refine tPutF (fs' := (.int 0 :: .int 0 :: .int 0 :: .int 0 :: .ref q0 :: .ref q1 :: .ref q2 :: .ref q3 :: .ref q4 :: .ref q5 :: .ref q6 :: .ref q7 :: .ref q8 :: .null :: .null :: .null :: .null :: .null :: .null :: [] : List Value)) 0 e0_17 dX7_init_67 fl_X7_35 hg_X7_35 ft_X7 rfl rfl rfl (Nat.le_of_ble_eq_true rfl) rfl rfl (Nat.le_of_ble_eq_true rfl) rfl (fun f18 u18 => ?_)
  have e0_18 := u18.s
  refine rAload_n dX7_init_70 rfl ?_
  refine rBipush (v := nI 24) dX7_init_71 (by decide) ?_
  refine tNewI (N := 24) dX7_init_73 (by decide) (by decide) (by decide) (Nat.le_of_ble_eq_true rfl) (Nat.le_of_ble_eq_true rfl) rfl (fun q9 f19 u19 => ?_)
  have e10_19 := u19.s
  have e0_19 : f19 0 = (a, .inr (7, [.int 0, .int 0, .int 0, .int 0, .ref q0, .ref q1, .ref q2, .ref q3, .ref q4, .ref q5, .ref q6, .ref q7, .ref q8, .null, .null, .null, .null, .null, .null])) := (u19.n rfl e0_18)
  refine tPutF (fs' := (.int 0 :: .int 0 :: .int 0 :: .int 0 :: .ref q0 :: .ref q1 :: .ref q2 :: .ref q3 :: .ref q4 :: .ref q5 :: .ref q6 :: .ref q7 :: .ref q8 :: .ref q9 :: .null :: .null :: .null :: .null :: .null :: [] : List Value)) 0 e0_19 dX7_init_75 fl_X7_38 hg_X7_38 ft_X7 rfl rfl rfl (Nat.le_of_ble_eq_true rfl) rfl rfl (Nat.le_of_ble_eq_true rfl) rfl (fun f20 u20 => ?_)
  have e0_20 := u20.s
  refine rAload_n dX7_init_78 rfl ?_
  refine rIconst (v := nI 4) dX7_init_79 (by decide) ?_
  refine tNewI (N := 4) dX7_init_80 (by decide) (by decide) (by decide) (Nat.le_of_ble_eq_true rfl) (Nat.le_of_ble_eq_true rfl) rfl (fun q10 f21 u21 => ?_)
  have e11_21 := u21.s
  have e0_21 : f21 0 = (a, .inr (7, [.int 0, .int 0, .int 0, .int 0, .ref q0, .ref q1, .ref q2, .ref q3, .ref q4, .ref q5, .ref q6, .ref q7, .ref q8, .ref q9, .null, .null, .null, .null, .null])) := (u21.n rfl e0_20)
  refine tPutF (fs' := (.int 0 :: .int 0 :: .int 0 :: .int 0 :: .ref q0 :: .ref q1 :: .ref q2 :: .ref q3 :: .ref q4 :: .ref q5 :: .ref q6 :: .ref q7 :: .ref q8 :: .ref q9 :: .ref q10 :: .null :: .null :: .null :: .null :: [] : List Value)) 0 e0_21 dX7_init_82 fl_X7_41 hg_X7_41 ft_X7 rfl rfl rfl (Nat.le_of_ble_eq_true rfl) rfl rfl (Nat.le_of_ble_eq_true rfl) rfl (fun f22 u22 => ?_)
  have e0_22 := u22.s
  refine rAload_n dX7_init_85 rfl ?_
  refine rBipush (v := nI 20) dX7_init_86 (by decide) ?_
  refine tNewI (N := 20) dX7_init_88 (by decide) (by decide) (by decide) (Nat.le_of_ble_eq_true rfl) (Nat.le_of_ble_eq_true rfl) rfl (fun q11 f23 u23 => ?_)
  have e12_23 := u23.s
  have e0_23 : f23 0 = (a, .inr (7, [.int 0, .int 0, .int 0, .int 0, .ref q0, .ref q1, .ref q2, .ref q3, .ref q4, .ref q5, .ref q6, .ref q7, .ref q8, .ref q9, .ref q10, .null, .null, .null, .null])) := (u23.n rfl e0_22)
  refine tPutF (fs' := (.int 0 :: .int 0 :: .int 0 :: .int 0 :: .ref q0 :: .ref q1 :: .ref q2 :: .ref q3 :: .ref q4 :: .ref q5 :: .ref q6 :: .ref q7 :: .ref q8 :: .ref q9 :: .ref q10 :: .ref q11 :: .null :: .null :: .null :: [] : List Value)) 0 e0_23 dX7_init_90 fl_X7_44 hg_X7_44 ft_X7 rfl rfl rfl (Nat.le_of_ble_eq_true rfl) rfl rfl (Nat.le_of_ble_eq_true rfl) rfl (fun f24 u24 => ?_)
  have e0_24 := u24.s
  refine rAload_n dX7_init_93 rfl ?_
  refine rIconst (v := nI 2) dX7_init_94 (by decide) ?_
  refine tNewI (N := 2) dX7_init_95 (by decide) (by decide) (by decide) (Nat.le_of_ble_eq_true rfl) (Nat.le_of_ble_eq_true rfl) rfl (fun q12 f25 u25 => ?_)
  have e13_25 := u25.s
  have e0_25 : f25 0 = (a, .inr (7, [.int 0, .int 0, .int 0, .int 0, .ref q0, .ref q1, .ref q2, .ref q3, .ref q4, .ref q5, .ref q6, .ref q7, .ref q8, .ref q9, .ref q10, .ref q11, .null, .null, .null])) := (u25.n rfl e0_24)
  refine tPutF (fs' := (.int 0 :: .int 0 :: .int 0 :: .int 0 :: .ref q0 :: .ref q1 :: .ref q2 :: .ref q3 :: .ref q4 :: .ref q5 :: .ref q6 :: .ref q7 :: .ref q8 :: .ref q9 :: .ref q10 :: .ref q11 :: .ref q12 :: .null :: .null :: [] : List Value)) 0 e0_25 dX7_init_97 fl_X7_47 hg_X7_47 ft_X7 rfl rfl rfl (Nat.le_of_ble_eq_true rfl) rfl rfl (Nat.le_of_ble_eq_true rfl) rfl (fun f26 u26 => ?_)
  have e0_26 := u26.s
  refine rAload_n dX7_init_100 rfl ?_
  refine rIconst (v := nI 2) dX7_init_101 (by decide) ?_
  refine tNewI (N := 2) dX7_init_102 (by decide) (by decide) (by decide) (Nat.le_of_ble_eq_true rfl) (Nat.le_of_ble_eq_true rfl) rfl (fun q13 f27 u27 => ?_)
  have e14_27 := u27.s
  have e0_27 : f27 0 = (a, .inr (7, [.int 0, .int 0, .int 0, .int 0, .ref q0, .ref q1, .ref q2, .ref q3, .ref q4, .ref q5, .ref q6, .ref q7, .ref q8, .ref q9, .ref q10, .ref q11, .ref q12, .null, .null])) := (u27.n rfl e0_26)
  refine tPutF (fs' := (.int 0 :: .int 0 :: .int 0 :: .int 0 :: .ref q0 :: .ref q1 :: .ref q2 :: .ref q3 :: .ref q4 :: .ref q5 :: .ref q6 :: .ref q7 :: .ref q8 :: .ref q9 :: .ref q10 :: .ref q11 :: .ref q12 :: .ref q13 :: .null :: [] : List Value)) 0 e0_27 dX7_init_104 fl_X7_50 hg_X7_50 ft_X7 rfl rfl rfl (Nat.le_of_ble_eq_true rfl) rfl rfl (Nat.le_of_ble_eq_true rfl) rfl (fun f28 u28 => ?_)
  have e0_28 := u28.s
  refine rAload_n dX7_init_107 rfl ?_
  refine rBipush (v := nI 10) dX7_init_108 (by decide) ?_
  refine tNewI (N := 10) dX7_init_110 (by decide) (by decide) (by decide) (Nat.le_of_ble_eq_true rfl) (Nat.le_of_ble_eq_true rfl) rfl (fun q14 f29 u29 => ?_)
  have e15_29 := u29.s
  have e0_29 : f29 0 = (a, .inr (7, [.int 0, .int 0, .int 0, .int 0, .ref q0, .ref q1, .ref q2, .ref q3, .ref q4, .ref q5, .ref q6, .ref q7, .ref q8, .ref q9, .ref q10, .ref q11, .ref q12, .ref q13, .null])) := (u29.n rfl e0_28)
  refine tPutF (fs' := (.int 0 :: .int 0 :: .int 0 :: .int 0 :: .ref q0 :: .ref q1 :: .ref q2 :: .ref q3 :: .ref q4 :: .ref q5 :: .ref q6 :: .ref q7 :: .ref q8 :: .ref q9 :: .ref q10 :: .ref q11 :: .ref q12 :: .ref q13 :: .ref q14 :: [] : List Value)) 0 e0_29 dX7_init_112 fl_X7_53 hg_X7_53 ft_X7 rfl rfl rfl (Nat.le_of_ble_eq_true rfl) rfl rfl (Nat.le_of_ble_eq_true rfl) rfl (fun f30 u30 => ?_)
  have e0_30 := u30.s
  refine rIconst (v := nI 0) dX7_init_115 (by decide) ?_
  refine rIstore_n dX7_init_116 (by decide) ?_
  show RW G _ _ _ _ 117 [some (.ref a), some (.int (nI 0))] _ _ _ _
  refine rIload_n dX7_init_117 rfl ?_
  refine rBipush (v := nI 9) dX7_init_118 (by decide) ?_
  refine r_icmp_ge (tgt := 137) dX7_init_120 (by decide) (fun c => absurd c (by decide)) (fun c => ?_)
  refine rAload_n dX7_init_123 rfl ?_
  refine tGet 0 e0_30 dX7_init_124 fl_X7_13 (Nat.le_of_ble_eq_true rfl) rfl ?_
  refine rIload_n dX7_init_127 rfl ?_
  refine rBipush (v := nI 9) dX7_init_128 (by decide) ?_
  have e2_30 : f30 2 = (q1, .inl (gcy G 0, 9, .inl (fun _ => 0))) := (u30.n rfl (u29.n rfl (u28.n rfl (u27.n rfl (u26.n rfl (u25.n rfl (u24.n rfl (u23.n rfl (u22.n rfl (u21.n rfl (u20.n rfl (u19.n rfl (u18.n rfl (u17.n rfl (u16.n rfl (u15.n rfl (u14.n rfl (u13.n rfl (u12.n rfl (u11.n rfl (u10.n rfl (u9.n rfl (u8.n rfl (u7.n rfl (u6.n rfl (u5.n rfl (u4.n rfl e2_3)))))))))))))))))))))))))))
  refine tIast (i := 0) 2 e2_30 dX7_init_130 (Nat.le_of_ble_eq_true rfl) (by decide) (by decide) (fun f31 u31 => ?_)
  have e2_31 := u31.s
  refine rIinc (v := nI 1) dX7_init_131 rfl (by rfl) (by decide) ?_
  show RW G _ _ _ _ 134 [some (.ref a), some (.int (nI 1))] _ _ _ _
  refine rGoto (tgt := 117) dX7_init_134 (by decide) ?_
  refine rIload_n dX7_init_117 rfl ?_
  refine rBipush (v := nI 9) dX7_init_118 (by decide) ?_
  refine r_icmp_ge (tgt := 137) dX7_init_120 (by decide) (fun c => absurd c (by decide)) (fun c => ?_)
  refine rAload_n dX7_init_123 rfl ?_
  have e0_31 : f31 0 = (a, .inr (7, [.int 0, .int 0, .int 0, .int 0, .ref q0, .ref q1, .ref q2, .ref q3, .ref q4, .ref q5, .ref q6, .ref q7, .ref q8, .ref q9, .ref q10, .ref q11, .ref q12, .ref q13, .ref q14])) := (u31.n rfl e0_30)
  refine tGet 0 e0_31 dX7_init_124 fl_X7_13 (Nat.le_of_ble_eq_true rfl) rfl ?_
  refine rIload_n dX7_init_127 rfl ?_
  refine rBipush (v := nI 9) dX7_init_128 (by decide) ?_
  refine tIast (i := 1) 2 e2_31 dX7_init_130 (Nat.le_of_ble_eq_true rfl) (by decide) (by decide) (fun f32 u32 => ?_)
  have e2_32 := u32.s
  refine rIinc (v := nI 2) dX7_init_131 rfl (by rfl) (by decide) ?_
  show RW G _ _ _ _ 134 [some (.ref a), some (.int (nI 2))] _ _ _ _
  refine rGoto (tgt := 117) dX7_init_134 (by decide) ?_
  refine rIload_n dX7_init_117 rfl ?_
  refine rBipush (v := nI 9) dX7_init_118 (by decide) ?_
  refine r_icmp_ge (tgt := 137) dX7_init_120 (by decide) (fun c => absurd c (by decide)) (fun c => ?_)
  refine rAload_n dX7_init_123 rfl ?_
  have e0_32 : f32 0 = (a, .inr (7, [.int 0, .int 0, .int 0, .int 0, .ref q0, .ref q1, .ref q2, .ref q3, .ref q4, .ref q5, .ref q6, .ref q7, .ref q8, .ref q9, .ref q10, .ref q11, .ref q12, .ref q13, .ref q14])) := (u32.n rfl e0_31)
  refine tGet 0 e0_32 dX7_init_124 fl_X7_13 (Nat.le_of_ble_eq_true rfl) rfl ?_
  refine rIload_n dX7_init_127 rfl ?_
  refine rBipush (v := nI 9) dX7_init_128 (by decide) ?_
  refine tIast (i := 2) 2 e2_32 dX7_init_130 (Nat.le_of_ble_eq_true rfl) (by decide) (by decide) (fun f33 u33 => ?_)
  have e2_33 := u33.s
  refine rIinc (v := nI 3) dX7_init_131 rfl (by rfl) (by decide) ?_
  show RW G _ _ _ _ 134 [some (.ref a), some (.int (nI 3))] _ _ _ _
  refine rGoto (tgt := 117) dX7_init_134 (by decide) ?_
  refine rIload_n dX7_init_117 rfl ?_
  refine rBipush (v := nI 9) dX7_init_118 (by decide) ?_
  refine r_icmp_ge (tgt := 137) dX7_init_120 (by decide) (fun c => absurd c (by decide)) (fun c => ?_)
  refine rAload_n dX7_init_123 rfl ?_
  have e0_33 : f33 0 = (a, .inr (7, [.int 0, .int 0, .int 0, .int 0, .ref q0, .ref q1, .ref q2, .ref q3, .ref q4, .ref q5, .ref q6, .ref q7, .ref q8, .ref q9, .ref q10, .ref q11, .ref q12, .ref q13, .ref q14])) := (u33.n rfl e0_32)
  refine tGet 0 e0_33 dX7_init_124 fl_X7_13 (Nat.le_of_ble_eq_true rfl) rfl ?_
  refine rIload_n dX7_init_127 rfl ?_
  refine rBipush (v := nI 9) dX7_init_128 (by decide) ?_
  refine tIast (i := 3) 2 e2_33 dX7_init_130 (Nat.le_of_ble_eq_true rfl) (by decide) (by decide) (fun f34 u34 => ?_)
  have e2_34 := u34.s
  refine rIinc (v := nI 4) dX7_init_131 rfl (by rfl) (by decide) ?_
  show RW G _ _ _ _ 134 [some (.ref a), some (.int (nI 4))] _ _ _ _
  refine rGoto (tgt := 117) dX7_init_134 (by decide) ?_
  refine rIload_n dX7_init_117 rfl ?_
  refine rBipush (v := nI 9) dX7_init_118 (by decide) ?_
  refine r_icmp_ge (tgt := 137) dX7_init_120 (by decide) (fun c => absurd c (by decide)) (fun c => ?_)
  refine rAload_n dX7_init_123 rfl ?_
  have e0_34 : f34 0 = (a, .inr (7, [.int 0, .int 0, .int 0, .int 0, .ref q0, .ref q1, .ref q2, .ref q3, .ref q4, .ref q5, .ref q6, .ref q7, .ref q8, .ref q9, .ref q10, .ref q11, .ref q12, .ref q13, .ref q14])) := (u34.n rfl e0_33)
  refine tGet 0 e0_34 dX7_init_124 fl_X7_13 (Nat.le_of_ble_eq_true rfl) rfl ?_
  refine rIload_n dX7_init_127 rfl ?_
  refine rBipush (v := nI 9) dX7_init_128 (by decide) ?_
  refine tIast (i := 4) 2 e2_34 dX7_init_130 (Nat.le_of_ble_eq_true rfl) (by decide) (by decide) (fun f35 u35 => ?_)
  have e2_35 := u35.s
  refine rIinc (v := nI 5) dX7_init_131 rfl (by rfl) (by decide) ?_
  show RW G _ _ _ _ 134 [some (.ref a), some (.int (nI 5))] _ _ _ _
  refine rGoto (tgt := 117) dX7_init_134 (by decide) ?_
  refine rIload_n dX7_init_117 rfl ?_
  refine rBipush (v := nI 9) dX7_init_118 (by decide) ?_
  refine r_icmp_ge (tgt := 137) dX7_init_120 (by decide) (fun c => absurd c (by decide)) (fun c => ?_)
  refine rAload_n dX7_init_123 rfl ?_
  have e0_35 : f35 0 = (a, .inr (7, [.int 0, .int 0, .int 0, .int 0, .ref q0, .ref q1, .ref q2, .ref q3, .ref q4, .ref q5, .ref q6, .ref q7, .ref q8, .ref q9, .ref q10, .ref q11, .ref q12, .ref q13, .ref q14])) := (u35.n rfl e0_34)
  refine tGet 0 e0_35 dX7_init_124 fl_X7_13 (Nat.le_of_ble_eq_true rfl) rfl ?_
  refine rIload_n dX7_init_127 rfl ?_
  refine rBipush (v := nI 9) dX7_init_128 (by decide) ?_
  refine tIast (i := 5) 2 e2_35 dX7_init_130 (Nat.le_of_ble_eq_true rfl) (by decide) (by decide) (fun f36 u36 => ?_)
  have e2_36 := u36.s
  refine rIinc (v := nI 6) dX7_init_131 rfl (by rfl) (by decide) ?_
  show RW G _ _ _ _ 134 [some (.ref a), some (.int (nI 6))] _ _ _ _
  refine rGoto (tgt := 117) dX7_init_134 (by decide) ?_
  refine rIload_n dX7_init_117 rfl ?_
  refine rBipush (v := nI 9) dX7_init_118 (by decide) ?_
  refine r_icmp_ge (tgt := 137) dX7_init_120 (by decide) (fun c => absurd c (by decide)) (fun c => ?_)
  refine rAload_n dX7_init_123 rfl ?_
  have e0_36 : f36 0 = (a, .inr (7, [.int 0, .int 0, .int 0, .int 0, .ref q0, .ref q1, .ref q2, .ref q3, .ref q4, .ref q5, .ref q6, .ref q7, .ref q8, .ref q9, .ref q10, .ref q11, .ref q12, .ref q13, .ref q14])) := (u36.n rfl e0_35)
  refine tGet 0 e0_36 dX7_init_124 fl_X7_13 (Nat.le_of_ble_eq_true rfl) rfl ?_
  refine rIload_n dX7_init_127 rfl ?_
  refine rBipush (v := nI 9) dX7_init_128 (by decide) ?_
  refine tIast (i := 6) 2 e2_36 dX7_init_130 (Nat.le_of_ble_eq_true rfl) (by decide) (by decide) (fun f37 u37 => ?_)
  have e2_37 := u37.s
  refine rIinc (v := nI 7) dX7_init_131 rfl (by rfl) (by decide) ?_
  show RW G _ _ _ _ 134 [some (.ref a), some (.int (nI 7))] _ _ _ _
  refine rGoto (tgt := 117) dX7_init_134 (by decide) ?_
  refine rIload_n dX7_init_117 rfl ?_
  refine rBipush (v := nI 9) dX7_init_118 (by decide) ?_
  refine r_icmp_ge (tgt := 137) dX7_init_120 (by decide) (fun c => absurd c (by decide)) (fun c => ?_)
  refine rAload_n dX7_init_123 rfl ?_
  have e0_37 : f37 0 = (a, .inr (7, [.int 0, .int 0, .int 0, .int 0, .ref q0, .ref q1, .ref q2, .ref q3, .ref q4, .ref q5, .ref q6, .ref q7, .ref q8, .ref q9, .ref q10, .ref q11, .ref q12, .ref q13, .ref q14])) := (u37.n rfl e0_36)
  refine tGet 0 e0_37 dX7_init_124 fl_X7_13 (Nat.le_of_ble_eq_true rfl) rfl ?_
  refine rIload_n dX7_init_127 rfl ?_
  refine rBipush (v := nI 9) dX7_init_128 (by decide) ?_
  refine tIast (i := 7) 2 e2_37 dX7_init_130 (Nat.le_of_ble_eq_true rfl) (by decide) (by decide) (fun f38 u38 => ?_)
  have e2_38 := u38.s
  refine rIinc (v := nI 8) dX7_init_131 rfl (by rfl) (by decide) ?_
  show RW G _ _ _ _ 134 [some (.ref a), some (.int (nI 8))] _ _ _ _
  refine rGoto (tgt := 117) dX7_init_134 (by decide) ?_
  refine rIload_n dX7_init_117 rfl ?_
  refine rBipush (v := nI 9) dX7_init_118 (by decide) ?_
  refine r_icmp_ge (tgt := 137) dX7_init_120 (by decide) (fun c => absurd c (by decide)) (fun c => ?_)
  refine rAload_n dX7_init_123 rfl ?_
  have e0_38 : f38 0 = (a, .inr (7, [.int 0, .int 0, .int 0, .int 0, .ref q0, .ref q1, .ref q2, .ref q3, .ref q4, .ref q5, .ref q6, .ref q7, .ref q8, .ref q9, .ref q10, .ref q11, .ref q12, .ref q13, .ref q14])) := (u38.n rfl e0_37)
  refine tGet 0 e0_38 dX7_init_124 fl_X7_13 (Nat.le_of_ble_eq_true rfl) rfl ?_
  refine rIload_n dX7_init_127 rfl ?_
  refine rBipush (v := nI 9) dX7_init_128 (by decide) ?_
  refine tIast (i := 8) 2 e2_38 dX7_init_130 (Nat.le_of_ble_eq_true rfl) (by decide) (by decide) (fun f39 u39 => ?_)
  have e2_39 := u39.s
  refine rIinc (v := nI 9) dX7_init_131 rfl (by rfl) (by decide) ?_
  show RW G _ _ _ _ 134 [some (.ref a), some (.int (nI 9))] _ _ _ _
  refine rGoto (tgt := 117) dX7_init_134 (by decide) ?_
  refine rIload_n dX7_init_117 rfl ?_
  refine rBipush (v := nI 9) dX7_init_118 (by decide) ?_
  refine r_icmp_ge (tgt := 137) dX7_init_120 (by decide) (fun c => ?_) (fun c => absurd (by decide) c)
  refine rIconst (v := nI 0) dX7_init_137 (by decide) ?_
  refine rIstore_n dX7_init_138 (by decide) ?_
  show RW G _ _ _ _ 139 [some (.ref a), some (.int (nI 0))] _ _ _ _
  refine rIload_n dX7_init_139 rfl ?_
  refine rIconst (v := nI 4) dX7_init_140 (by decide) ?_
  refine r_icmp_ge (tgt := 173) dX7_init_141 (by decide) (fun c => absurd c (by decide)) (fun c => ?_)
  refine rAload_n dX7_init_144 rfl ?_
  have e0_39 : f39 0 = (a, .inr (7, [.int 0, .int 0, .int 0, .int 0, .ref q0, .ref q1, .ref q2, .ref q3, .ref q4, .ref q5, .ref q6, .ref q7, .ref q8, .ref q9, .ref q10, .ref q11, .ref q12, .ref q13, .ref q14])) := (u39.n rfl e0_38)
  refine tGet 0 e0_39 dX7_init_145 fl_X7_16 (Nat.le_of_ble_eq_true rfl) rfl ?_
  refine rIload_n dX7_init_148 rfl ?_
  refine rBipush (v := nI 10) dX7_init_149 (by decide) ?_
  have e3_39 : f39 3 = (q2, .inl (gcy G 0, 4, .inl (fun _ => 0))) := (u39.n rfl (u38.n rfl (u37.n rfl (u36.n rfl (u35.n rfl (u34.n rfl (u33.n rfl (u32.n rfl (u31.n rfl (u30.n rfl (u29.n rfl (u28.n rfl (u27.n rfl (u26.n rfl (u25.n rfl (u24.n rfl (u23.n rfl (u22.n rfl (u21.n rfl (u20.n rfl (u19.n rfl (u18.n rfl (u17.n rfl (u16.n rfl (u15.n rfl (u14.n rfl (u13.n rfl (u12.n rfl (u11.n rfl (u10.n rfl (u9.n rfl (u8.n rfl (u7.n rfl (u6.n rfl e3_5))))))))))))))))))))))))))))))))))
  refine tIast (i := 0) 3 e3_39 dX7_init_151 (Nat.le_of_ble_eq_true rfl) (by decide) (by decide) (fun f40 u40 => ?_)
  have e3_40 := u40.s
  refine rAload_n dX7_init_152 rfl ?_
  have e0_40 : f40 0 = (a, .inr (7, [.int 0, .int 0, .int 0, .int 0, .ref q0, .ref q1, .ref q2, .ref q3, .ref q4, .ref q5, .ref q6, .ref q7, .ref q8, .ref q9, .ref q10, .ref q11, .ref q12, .ref q13, .ref q14])) := (u40.n rfl e0_39)
  refine tGet 0 e0_40 dX7_init_153 fl_X7_19 (Nat.le_of_ble_eq_true rfl) rfl ?_
  refine rIload_n dX7_init_156 rfl ?_
  refine rIconst (v := nI 1) dX7_init_157 (by decide) ?_
  have e4_40 : f40 4 = (q3, .inl (gcy G 0, 4, .inl (fun _ => 0))) := (u40.n rfl (u39.n rfl (u38.n rfl (u37.n rfl (u36.n rfl (u35.n rfl (u34.n rfl (u33.n rfl (u32.n rfl (u31.n rfl (u30.n rfl (u29.n rfl (u28.n rfl (u27.n rfl (u26.n rfl (u25.n rfl (u24.n rfl (u23.n rfl (u22.n rfl (u21.n rfl (u20.n rfl (u19.n rfl (u18.n rfl (u17.n rfl (u16.n rfl (u15.n rfl (u14.n rfl (u13.n rfl (u12.n rfl (u11.n rfl (u10.n rfl (u9.n rfl (u8.n rfl e4_7)))))))))))))))))))))))))))))))))
  refine tIast (i := 0) 4 e4_40 dX7_init_158 (Nat.le_of_ble_eq_true rfl) (by decide) (by decide) (fun f41 u41 => ?_)
  have e4_41 := u41.s
  refine rAload_n dX7_init_159 rfl ?_
  have e0_41 : f41 0 = (a, .inr (7, [.int 0, .int 0, .int 0, .int 0, .ref q0, .ref q1, .ref q2, .ref q3, .ref q4, .ref q5, .ref q6, .ref q7, .ref q8, .ref q9, .ref q10, .ref q11, .ref q12, .ref q13, .ref q14])) := (u41.n rfl e0_40)
  refine tGet 0 e0_41 dX7_init_160 fl_X7_22 (Nat.le_of_ble_eq_true rfl) rfl ?_
  refine rIload_n dX7_init_163 rfl ?_
  refine rBipush (v := nI 20) dX7_init_164 (by decide) ?_
  have e5_41 : f41 5 = (q4, .inl (gcy G 0, 4, .inl (fun _ => 0))) := (u41.n rfl (u40.n rfl (u39.n rfl (u38.n rfl (u37.n rfl (u36.n rfl (u35.n rfl (u34.n rfl (u33.n rfl (u32.n rfl (u31.n rfl (u30.n rfl (u29.n rfl (u28.n rfl (u27.n rfl (u26.n rfl (u25.n rfl (u24.n rfl (u23.n rfl (u22.n rfl (u21.n rfl (u20.n rfl (u19.n rfl (u18.n rfl (u17.n rfl (u16.n rfl (u15.n rfl (u14.n rfl (u13.n rfl (u12.n rfl (u11.n rfl (u10.n rfl e5_9))))))))))))))))))))))))))))))))
  refine tIast (i := 0) 5 e5_41 dX7_init_166 (Nat.le_of_ble_eq_true rfl) (by decide) (by decide) (fun f42 u42 => ?_)
  have e5_42 := u42.s
  refine rIinc (v := nI 1) dX7_init_167 rfl (by rfl) (by decide) ?_
  show RW G _ _ _ _ 170 [some (.ref a), some (.int (nI 1))] _ _ _ _
  refine rGoto (tgt := 139) dX7_init_170 (by decide) ?_
  refine rIload_n dX7_init_139 rfl ?_
  refine rIconst (v := nI 4) dX7_init_140 (by decide) ?_
  refine r_icmp_ge (tgt := 173) dX7_init_141 (by decide) (fun c => absurd c (by decide)) (fun c => ?_)
  refine rAload_n dX7_init_144 rfl ?_
  have e0_42 : f42 0 = (a, .inr (7, [.int 0, .int 0, .int 0, .int 0, .ref q0, .ref q1, .ref q2, .ref q3, .ref q4, .ref q5, .ref q6, .ref q7, .ref q8, .ref q9, .ref q10, .ref q11, .ref q12, .ref q13, .ref q14])) := (u42.n rfl e0_41)
  refine tGet 0 e0_42 dX7_init_145 fl_X7_16 (Nat.le_of_ble_eq_true rfl) rfl ?_
  refine rIload_n dX7_init_148 rfl ?_
  refine rBipush (v := nI 10) dX7_init_149 (by decide) ?_
  have e3_42 : f42 3 = (q2, .inl (gcy G 0, 4, .inl (upd (fun _ => 0) 0 (nI 10)))) := (u42.n rfl (u41.n rfl e3_40))
  refine tIast (i := 1) 3 e3_42 dX7_init_151 (Nat.le_of_ble_eq_true rfl) (by decide) (by decide) (fun f43 u43 => ?_)
  have e3_43 := u43.s
  refine rAload_n dX7_init_152 rfl ?_
  have e0_43 : f43 0 = (a, .inr (7, [.int 0, .int 0, .int 0, .int 0, .ref q0, .ref q1, .ref q2, .ref q3, .ref q4, .ref q5, .ref q6, .ref q7, .ref q8, .ref q9, .ref q10, .ref q11, .ref q12, .ref q13, .ref q14])) := (u43.n rfl e0_42)
  refine tGet 0 e0_43 dX7_init_153 fl_X7_19 (Nat.le_of_ble_eq_true rfl) rfl ?_
  refine rIload_n dX7_init_156 rfl ?_
  refine rIconst (v := nI 1) dX7_init_157 (by decide) ?_
  have e4_43 : f43 4 = (q3, .inl (gcy G 0, 4, .inl (upd (fun _ => 0) 0 (nI 1)))) := (u43.n rfl (u42.n rfl e4_41))
  refine tIast (i := 1) 4 e4_43 dX7_init_158 (Nat.le_of_ble_eq_true rfl) (by decide) (by decide) (fun f44 u44 => ?_)
  have e4_44 := u44.s
  refine rAload_n dX7_init_159 rfl ?_
  have e0_44 : f44 0 = (a, .inr (7, [.int 0, .int 0, .int 0, .int 0, .ref q0, .ref q1, .ref q2, .ref q3, .ref q4, .ref q5, .ref q6, .ref q7, .ref q8, .ref q9, .ref q10, .ref q11, .ref q12, .ref q13, .ref q14])) := (u44.n rfl e0_43)
  refine tGet 0 e0_44 dX7_init_160 fl_X7_22 (Nat.le_of_ble_eq_true rfl) rfl ?_
  refine rIload_n dX7_init_163 rfl ?_
  refine rBipush (v := nI 20) dX7_init_164 (by decide) ?_
  have e5_44 : f44 5 = (q4, .inl (gcy G 0, 4, .inl (upd (fun _ => 0) 0 (nI 20)))) := (u44.n rfl (u43.n rfl e5_42))
  refine tIast (i := 1) 5 e5_44 dX7_init_166 (Nat.le_of_ble_eq_true rfl) (by decide) (by decide) (fun f45 u45 => ?_)
  have e5_45 := u45.s
  refine rIinc (v := nI 2) dX7_init_167 rfl (by rfl) (by decide) ?_
  show RW G _ _ _ _ 170 [some (.ref a), some (.int (nI 2))] _ _ _ _
  refine rGoto (tgt := 139) dX7_init_170 (by decide) ?_
  refine rIload_n dX7_init_139 rfl ?_
  refine rIconst (v := nI 4) dX7_init_140 (by decide) ?_
  refine r_icmp_ge (tgt := 173) dX7_init_141 (by decide) (fun c => absurd c (by decide)) (fun c => ?_)
  refine rAload_n dX7_init_144 rfl ?_
  have e0_45 : f45 0 = (a, .inr (7, [.int 0, .int 0, .int 0, .int 0, .ref q0, .ref q1, .ref q2, .ref q3, .ref q4, .ref q5, .ref q6, .ref q7, .ref q8, .ref q9, .ref q10, .ref q11, .ref q12, .ref q13, .ref q14])) := (u45.n rfl e0_44)
  refine tGet 0 e0_45 dX7_init_145 fl_X7_16 (Nat.le_of_ble_eq_true rfl) rfl ?_
  refine rIload_n dX7_init_148 rfl ?_
  refine rBipush (v := nI 10) dX7_init_149 (by decide) ?_
  have e3_45 : f45 3 = (q2, .inl (gcy G 0, 4, .inl (upd (upd (fun _ => 0) 0 (nI 10)) 1 (nI 10)))) := (u45.n rfl (u44.n rfl e3_43))
  refine tIast (i := 2) 3 e3_45 dX7_init_151 (Nat.le_of_ble_eq_true rfl) (by decide) (by decide) (fun f46 u46 => ?_)
  have e3_46 := u46.s
  refine rAload_n dX7_init_152 rfl ?_
  have e0_46 : f46 0 = (a, .inr (7, [.int 0, .int 0, .int 0, .int 0, .ref q0, .ref q1, .ref q2, .ref q3, .ref q4, .ref q5, .ref q6, .ref q7, .ref q8, .ref q9, .ref q10, .ref q11, .ref q12, .ref q13, .ref q14])) := (u46.n rfl e0_45)
  refine tGet 0 e0_46 dX7_init_153 fl_X7_19 (Nat.le_of_ble_eq_true rfl) rfl ?_
  refine rIload_n dX7_init_156 rfl ?_
  refine rIconst (v := nI 1) dX7_init_157 (by decide) ?_
  have e4_46 : f46 4 = (q3, .inl (gcy G 0, 4, .inl (upd (upd (fun _ => 0) 0 (nI 1)) 1 (nI 1)))) := (u46.n rfl (u45.n rfl e4_44))
  refine tIast (i := 2) 4 e4_46 dX7_init_158 (Nat.le_of_ble_eq_true rfl) (by decide) (by decide) (fun f47 u47 => ?_)
  have e4_47 := u47.s
  refine rAload_n dX7_init_159 rfl ?_
  have e0_47 : f47 0 = (a, .inr (7, [.int 0, .int 0, .int 0, .int 0, .ref q0, .ref q1, .ref q2, .ref q3, .ref q4, .ref q5, .ref q6, .ref q7, .ref q8, .ref q9, .ref q10, .ref q11, .ref q12, .ref q13, .ref q14])) := (u47.n rfl e0_46)
  refine tGet 0 e0_47 dX7_init_160 fl_X7_22 (Nat.le_of_ble_eq_true rfl) rfl ?_
  refine rIload_n dX7_init_163 rfl ?_
  refine rBipush (v := nI 20) dX7_init_164 (by decide) ?_
  have e5_47 : f47 5 = (q4, .inl (gcy G 0, 4, .inl (upd (upd (fun _ => 0) 0 (nI 20)) 1 (nI 20)))) := (u47.n rfl (u46.n rfl e5_45))
  refine tIast (i := 2) 5 e5_47 dX7_init_166 (Nat.le_of_ble_eq_true rfl) (by decide) (by decide) (fun f48 u48 => ?_)
  have e5_48 := u48.s
  refine rIinc (v := nI 3) dX7_init_167 rfl (by rfl) (by decide) ?_
  show RW G _ _ _ _ 170 [some (.ref a), some (.int (nI 3))] _ _ _ _
  refine rGoto (tgt := 139) dX7_init_170 (by decide) ?_
  refine rIload_n dX7_init_139 rfl ?_
  refine rIconst (v := nI 4) dX7_init_140 (by decide) ?_
  refine r_icmp_ge (tgt := 173) dX7_init_141 (by decide) (fun c => absurd c (by decide)) (fun c => ?_)
  refine rAload_n dX7_init_144 rfl ?_
  have e0_48 : f48 0 = (a, .inr (7, [.int 0, .int 0, .int 0, .int 0, .ref q0, .ref q1, .ref q2, .ref q3, .ref q4, .ref q5, .ref q6, .ref q7, .ref q8, .ref q9, .ref q10, .ref q11, .ref q12, .ref q13, .ref q14])) := (u48.n rfl e0_47)
  refine tGet 0 e0_48 dX7_init_145 fl_X7_16 (Nat.le_of_ble_eq_true rfl) rfl ?_
  refine rIload_n dX7_init_148 rfl ?_
  refine rBipush (v := nI 10) dX7_init_149 (by decide) ?_
  have e3_48 : f48 3 = (q2, .inl (gcy G 0, 4, .inl (upd (upd (upd (fun _ => 0) 0 (nI 10)) 1 (nI 10)) 2 (nI 10)))) := (u48.n rfl (u47.n rfl e3_46))
  refine tIast (i := 3) 3 e3_48 dX7_init_151 (Nat.le_of_ble_eq_true rfl) (by decide) (by decide) (fun f49 u49 => ?_)
  have e3_49 := u49.s
  refine rAload_n dX7_init_152 rfl ?_
  have e0_49 : f49 0 = (a, .inr (7, [.int 0, .int 0, .int 0, .int 0, .ref q0, .ref q1, .ref q2, .ref q3, .ref q4, .ref q5, .ref q6, .ref q7, .ref q8, .ref q9, .ref q10, .ref q11, .ref q12, .ref q13, .ref q14])) := (u49.n rfl e0_48)
  refine tGet 0 e0_49 dX7_init_153 fl_X7_19 (Nat.le_of_ble_eq_true rfl) rfl ?_
  refine rIload_n dX7_init_156 rfl ?_
  refine rIconst (v := nI 1) dX7_init_157 (by decide) ?_
  have e4_49 : f49 4 = (q3, .inl (gcy G 0, 4, .inl (upd (upd (upd (fun _ => 0) 0 (nI 1)) 1 (nI 1)) 2 (nI 1)))) := (u49.n rfl (u48.n rfl e4_47))
  refine tIast (i := 3) 4 e4_49 dX7_init_158 (Nat.le_of_ble_eq_true rfl) (by decide) (by decide) (fun f50 u50 => ?_)
  have e4_50 := u50.s
  refine rAload_n dX7_init_159 rfl ?_
  have e0_50 : f50 0 = (a, .inr (7, [.int 0, .int 0, .int 0, .int 0, .ref q0, .ref q1, .ref q2, .ref q3, .ref q4, .ref q5, .ref q6, .ref q7, .ref q8, .ref q9, .ref q10, .ref q11, .ref q12, .ref q13, .ref q14])) := (u50.n rfl e0_49)
  refine tGet 0 e0_50 dX7_init_160 fl_X7_22 (Nat.le_of_ble_eq_true rfl) rfl ?_
  refine rIload_n dX7_init_163 rfl ?_
  refine rBipush (v := nI 20) dX7_init_164 (by decide) ?_
  have e5_50 : f50 5 = (q4, .inl (gcy G 0, 4, .inl (upd (upd (upd (fun _ => 0) 0 (nI 20)) 1 (nI 20)) 2 (nI 20)))) := (u50.n rfl (u49.n rfl e5_48))
  refine tIast (i := 3) 5 e5_50 dX7_init_166 (Nat.le_of_ble_eq_true rfl) (by decide) (by decide) (fun f51 u51 => ?_)
  have e5_51 := u51.s
  refine rIinc (v := nI 4) dX7_init_167 rfl (by rfl) (by decide) ?_
  show RW G _ _ _ _ 170 [some (.ref a), some (.int (nI 4))] _ _ _ _
  refine rGoto (tgt := 139) dX7_init_170 (by decide) ?_
  refine rIload_n dX7_init_139 rfl ?_
  refine rIconst (v := nI 4) dX7_init_140 (by decide) ?_
  refine r_icmp_ge (tgt := 173) dX7_init_141 (by decide) (fun c => ?_) (fun c => absurd (by decide) c)
  refine rIconst (v := nI 0) dX7_init_173 (by decide) ?_
  refine rIstore_n dX7_init_174 (by decide) ?_
  show RW G _ _ _ _ 175 [some (.ref a), some (.int (nI 0))] _ _ _ _
  refine rIload_n dX7_init_175 rfl ?_
  refine rBipush (v := nI 12) dX7_init_176 (by decide) ?_
  refine r_icmp_ge (tgt := 194) dX7_init_178 (by decide) (fun c => absurd c (by decide)) (fun c => ?_)
  refine rAload_n dX7_init_181 rfl ?_
  have e0_51 : f51 0 = (a, .inr (7, [.int 0, .int 0, .int 0, .int 0, .ref q0, .ref q1, .ref q2, .ref q3, .ref q4, .ref q5, .ref q6, .ref q7, .ref q8, .ref q9, .ref q10, .ref q11, .ref q12, .ref q13, .ref q14])) := (u51.n rfl e0_50)
  refine tGet 0 e0_51 dX7_init_182 fl_X7_28 (Nat.le_of_ble_eq_true rfl) rfl ?_
  refine rIload_n dX7_init_185 rfl ?_
  refine rIconst (v := -1) dX7_init_186 (by decide) ?_
  have e7_51 : f51 7 = (q6, .inl (gcy G 0, 12, .inl (fun _ => 0))) := (u51.n rfl (u50.n rfl (u49.n rfl (u48.n rfl (u47.n rfl (u46.n rfl (u45.n rfl (u44.n rfl (u43.n rfl (u42.n rfl (u41.n rfl (u40.n rfl (u39.n rfl (u38.n rfl (u37.n rfl (u36.n rfl (u35.n rfl (u34.n rfl (u33.n rfl (u32.n rfl (u31.n rfl (u30.n rfl (u29.n rfl (u28.n rfl (u27.n rfl (u26.n rfl (u25.n rfl (u24.n rfl (u23.n rfl (u22.n rfl (u21.n rfl (u20.n rfl (u19.n rfl (u18.n rfl (u17.n rfl (u16.n rfl (u15.n rfl (u14.n rfl e7_13))))))))))))))))))))))))))))))))))))))
  refine tIast (i := 0) 7 e7_51 dX7_init_187 (Nat.le_of_ble_eq_true rfl) (by decide) (by decide) (fun f52 u52 => ?_)
  have e7_52 := u52.s
  refine rIinc (v := nI 1) dX7_init_188 rfl (by rfl) (by decide) ?_
  show RW G _ _ _ _ 191 [some (.ref a), some (.int (nI 1))] _ _ _ _
  refine rGoto (tgt := 175) dX7_init_191 (by decide) ?_
  refine rIload_n dX7_init_175 rfl ?_
  refine rBipush (v := nI 12) dX7_init_176 (by decide) ?_
  refine r_icmp_ge (tgt := 194) dX7_init_178 (by decide) (fun c => absurd c (by decide)) (fun c => ?_)
  refine rAload_n dX7_init_181 rfl ?_
  have e0_52 : f52 0 = (a, .inr (7, [.int 0, .int 0, .int 0, .int 0, .ref q0, .ref q1, .ref q2, .ref q3, .ref q4, .ref q5, .ref q6, .ref q7, .ref q8, .ref q9, .ref q10, .ref q11, .ref q12, .ref q13, .ref q14])) := (u52.n rfl e0_51)
  refine tGet 0 e0_52 dX7_init_182 fl_X7_28 (Nat.le_of_ble_eq_true rfl) rfl ?_
  refine rIload_n dX7_init_185 rfl ?_
  refine rIconst (v := -1) dX7_init_186 (by decide) ?_
  refine tIast (i := 1) 7 e7_52 dX7_init_187 (Nat.le_of_ble_eq_true rfl) (by decide) (by decide) (fun f53 u53 => ?_)
  have e7_53 := u53.s
  refine rIinc (v := nI 2) dX7_init_188 rfl (by rfl) (by decide) ?_
  show RW G _ _ _ _ 191 [some (.ref a), some (.int (nI 2))] _ _ _ _
  refine rGoto (tgt := 175) dX7_init_191 (by decide) ?_
  refine rIload_n dX7_init_175 rfl ?_
  refine rBipush (v := nI 12) dX7_init_176 (by decide) ?_
  refine r_icmp_ge (tgt := 194) dX7_init_178 (by decide) (fun c => absurd c (by decide)) (fun c => ?_)
  refine rAload_n dX7_init_181 rfl ?_
  have e0_53 : f53 0 = (a, .inr (7, [.int 0, .int 0, .int 0, .int 0, .ref q0, .ref q1, .ref q2, .ref q3, .ref q4, .ref q5, .ref q6, .ref q7, .ref q8, .ref q9, .ref q10, .ref q11, .ref q12, .ref q13, .ref q14])) := (u53.n rfl e0_52)
  refine tGet 0 e0_53 dX7_init_182 fl_X7_28 (Nat.le_of_ble_eq_true rfl) rfl ?_
  refine rIload_n dX7_init_185 rfl ?_
  refine rIconst (v := -1) dX7_init_186 (by decide) ?_
  refine tIast (i := 2) 7 e7_53 dX7_init_187 (Nat.le_of_ble_eq_true rfl) (by decide) (by decide) (fun f54 u54 => ?_)
  have e7_54 := u54.s
  refine rIinc (v := nI 3) dX7_init_188 rfl (by rfl) (by decide) ?_
  show RW G _ _ _ _ 191 [some (.ref a), some (.int (nI 3))] _ _ _ _
  refine rGoto (tgt := 175) dX7_init_191 (by decide) ?_
  refine rIload_n dX7_init_175 rfl ?_
  refine rBipush (v := nI 12) dX7_init_176 (by decide) ?_
  refine r_icmp_ge (tgt := 194) dX7_init_178 (by decide) (fun c => absurd c (by decide)) (fun c => ?_)
  refine rAload_n dX7_init_181 rfl ?_
  have e0_54 : f54 0 = (a, .inr (7, [.int 0, .int 0, .int 0, .int 0, .ref q0, .ref q1, .ref q2, .ref q3, .ref q4, .ref q5, .ref q6, .ref q7, .ref q8, .ref q9, .ref q10, .ref q11, .ref q12, .ref q13, .ref q14])) := (u54.n rfl e0_53)
  refine tGet 0 e0_54 dX7_init_182 fl_X7_28 (Nat.le_of_ble_eq_true rfl) rfl ?_
  refine rIload_n dX7_init_185 rfl ?_
  refine rIconst (v := -1) dX7_init_186 (by decide) ?_
  refine tIast (i := 3) 7 e7_54 dX7_init_187 (Nat.le_of_ble_eq_true rfl) (by decide) (by decide) (fun f55 u55 => ?_)
  have e7_55 := u55.s
  refine rIinc (v := nI 4) dX7_init_188 rfl (by rfl) (by decide) ?_
  show RW G _ _ _ _ 191 [some (.ref a), some (.int (nI 4))] _ _ _ _
  refine rGoto (tgt := 175) dX7_init_191 (by decide) ?_
  refine rIload_n dX7_init_175 rfl ?_
  refine rBipush (v := nI 12) dX7_init_176 (by decide) ?_
  refine r_icmp_ge (tgt := 194) dX7_init_178 (by decide) (fun c => absurd c (by decide)) (fun c => ?_)
  refine rAload_n dX7_init_181 rfl ?_
  have e0_55 : f55 0 = (a, .inr (7, [.int 0, .int 0, .int 0, .int 0, .ref q0, .ref q1, .ref q2, .ref q3, .ref q4, .ref q5, .ref q6, .ref q7, .ref q8, .ref q9, .ref q10, .ref q11, .ref q12, .ref q13, .ref q14])) := (u55.n rfl e0_54)
  refine tGet 0 e0_55 dX7_init_182 fl_X7_28 (Nat.le_of_ble_eq_true rfl) rfl ?_
  refine rIload_n dX7_init_185 rfl ?_
  refine rIconst (v := -1) dX7_init_186 (by decide) ?_
  refine tIast (i := 4) 7 e7_55 dX7_init_187 (Nat.le_of_ble_eq_true rfl) (by decide) (by decide) (fun f56 u56 => ?_)
  have e7_56 := u56.s
  refine rIinc (v := nI 5) dX7_init_188 rfl (by rfl) (by decide) ?_
  show RW G _ _ _ _ 191 [some (.ref a), some (.int (nI 5))] _ _ _ _
  refine rGoto (tgt := 175) dX7_init_191 (by decide) ?_
  refine rIload_n dX7_init_175 rfl ?_
  refine rBipush (v := nI 12) dX7_init_176 (by decide) ?_
  refine r_icmp_ge (tgt := 194) dX7_init_178 (by decide) (fun c => absurd c (by decide)) (fun c => ?_)
  refine rAload_n dX7_init_181 rfl ?_
  have e0_56 : f56 0 = (a, .inr (7, [.int 0, .int 0, .int 0, .int 0, .ref q0, .ref q1, .ref q2, .ref q3, .ref q4, .ref q5, .ref q6, .ref q7, .ref q8, .ref q9, .ref q10, .ref q11, .ref q12, .ref q13, .ref q14])) := (u56.n rfl e0_55)
  refine tGet 0 e0_56 dX7_init_182 fl_X7_28 (Nat.le_of_ble_eq_true rfl) rfl ?_
  refine rIload_n dX7_init_185 rfl ?_
  refine rIconst (v := -1) dX7_init_186 (by decide) ?_
  refine tIast (i := 5) 7 e7_56 dX7_init_187 (Nat.le_of_ble_eq_true rfl) (by decide) (by decide) (fun f57 u57 => ?_)
  have e7_57 := u57.s
  refine rIinc (v := nI 6) dX7_init_188 rfl (by rfl) (by decide) ?_
  show RW G _ _ _ _ 191 [some (.ref a), some (.int (nI 6))] _ _ _ _
  refine rGoto (tgt := 175) dX7_init_191 (by decide) ?_
  refine rIload_n dX7_init_175 rfl ?_
  refine rBipush (v := nI 12) dX7_init_176 (by decide) ?_
  refine r_icmp_ge (tgt := 194) dX7_init_178 (by decide) (fun c => absurd c (by decide)) (fun c => ?_)
  refine rAload_n dX7_init_181 rfl ?_
  have e0_57 : f57 0 = (a, .inr (7, [.int 0, .int 0, .int 0, .int 0, .ref q0, .ref q1, .ref q2, .ref q3, .ref q4, .ref q5, .ref q6, .ref q7, .ref q8, .ref q9, .ref q10, .ref q11, .ref q12, .ref q13, .ref q14])) := (u57.n rfl e0_56)
  refine tGet 0 e0_57 dX7_init_182 fl_X7_28 (Nat.le_of_ble_eq_true rfl) rfl ?_
  refine rIload_n dX7_init_185 rfl ?_
  refine rIconst (v := -1) dX7_init_186 (by decide) ?_
  refine tIast (i := 6) 7 e7_57 dX7_init_187 (Nat.le_of_ble_eq_true rfl) (by decide) (by decide) (fun f58 u58 => ?_)
  have e7_58 := u58.s
  refine rIinc (v := nI 7) dX7_init_188 rfl (by rfl) (by decide) ?_
  show RW G _ _ _ _ 191 [some (.ref a), some (.int (nI 7))] _ _ _ _
  refine rGoto (tgt := 175) dX7_init_191 (by decide) ?_
  refine rIload_n dX7_init_175 rfl ?_
  refine rBipush (v := nI 12) dX7_init_176 (by decide) ?_
  refine r_icmp_ge (tgt := 194) dX7_init_178 (by decide) (fun c => absurd c (by decide)) (fun c => ?_)
  refine rAload_n dX7_init_181 rfl ?_
  have e0_58 : f58 0 = (a, .inr (7, [.int 0, .int 0, .int 0, .int 0, .ref q0, .ref q1, .ref q2, .ref q3, .ref q4, .ref q5, .ref q6, .ref q7, .ref q8, .ref q9, .ref q10, .ref q11, .ref q12, .ref q13, .ref q14])) := (u58.n rfl e0_57)
  refine tGet 0 e0_58 dX7_init_182 fl_X7_28 (Nat.le_of_ble_eq_true rfl) rfl ?_
  refine rIload_n dX7_init_185 rfl ?_
  refine rIconst (v := -1) dX7_init_186 (by decide) ?_
  refine tIast (i := 7) 7 e7_58 dX7_init_187 (Nat.le_of_ble_eq_true rfl) (by decide) (by decide) (fun f59 u59 => ?_)
  have e7_59 := u59.s
  refine rIinc (v := nI 8) dX7_init_188 rfl (by rfl) (by decide) ?_
  show RW G _ _ _ _ 191 [some (.ref a), some (.int (nI 8))] _ _ _ _
  refine rGoto (tgt := 175) dX7_init_191 (by decide) ?_
  refine rIload_n dX7_init_175 rfl ?_
  refine rBipush (v := nI 12) dX7_init_176 (by decide) ?_
  refine r_icmp_ge (tgt := 194) dX7_init_178 (by decide) (fun c => absurd c (by decide)) (fun c => ?_)
  refine rAload_n dX7_init_181 rfl ?_
  have e0_59 : f59 0 = (a, .inr (7, [.int 0, .int 0, .int 0, .int 0, .ref q0, .ref q1, .ref q2, .ref q3, .ref q4, .ref q5, .ref q6, .ref q7, .ref q8, .ref q9, .ref q10, .ref q11, .ref q12, .ref q13, .ref q14])) := (u59.n rfl e0_58)
  refine tGet 0 e0_59 dX7_init_182 fl_X7_28 (Nat.le_of_ble_eq_true rfl) rfl ?_
  refine rIload_n dX7_init_185 rfl ?_
  refine rIconst (v := -1) dX7_init_186 (by decide) ?_
  refine tIast (i := 8) 7 e7_59 dX7_init_187 (Nat.le_of_ble_eq_true rfl) (by decide) (by decide) (fun f60 u60 => ?_)
  have e7_60 := u60.s
  refine rIinc (v := nI 9) dX7_init_188 rfl (by rfl) (by decide) ?_
  show RW G _ _ _ _ 191 [some (.ref a), some (.int (nI 9))] _ _ _ _
  refine rGoto (tgt := 175) dX7_init_191 (by decide) ?_
  refine rIload_n dX7_init_175 rfl ?_
  refine rBipush (v := nI 12) dX7_init_176 (by decide) ?_
  refine r_icmp_ge (tgt := 194) dX7_init_178 (by decide) (fun c => absurd c (by decide)) (fun c => ?_)
  refine rAload_n dX7_init_181 rfl ?_
  have e0_60 : f60 0 = (a, .inr (7, [.int 0, .int 0, .int 0, .int 0, .ref q0, .ref q1, .ref q2, .ref q3, .ref q4, .ref q5, .ref q6, .ref q7, .ref q8, .ref q9, .ref q10, .ref q11, .ref q12, .ref q13, .ref q14])) := (u60.n rfl e0_59)
  refine tGet 0 e0_60 dX7_init_182 fl_X7_28 (Nat.le_of_ble_eq_true rfl) rfl ?_
  refine rIload_n dX7_init_185 rfl ?_
  refine rIconst (v := -1) dX7_init_186 (by decide) ?_
  refine tIast (i := 9) 7 e7_60 dX7_init_187 (Nat.le_of_ble_eq_true rfl) (by decide) (by decide) (fun f61 u61 => ?_)
  have e7_61 := u61.s
  refine rIinc (v := nI 10) dX7_init_188 rfl (by rfl) (by decide) ?_
  show RW G _ _ _ _ 191 [some (.ref a), some (.int (nI 10))] _ _ _ _
  refine rGoto (tgt := 175) dX7_init_191 (by decide) ?_
  refine rIload_n dX7_init_175 rfl ?_
  refine rBipush (v := nI 12) dX7_init_176 (by decide) ?_
  refine r_icmp_ge (tgt := 194) dX7_init_178 (by decide) (fun c => absurd c (by decide)) (fun c => ?_)
  refine rAload_n dX7_init_181 rfl ?_
  have e0_61 : f61 0 = (a, .inr (7, [.int 0, .int 0, .int 0, .int 0, .ref q0, .ref q1, .ref q2, .ref q3, .ref q4, .ref q5, .ref q6, .ref q7, .ref q8, .ref q9, .ref q10, .ref q11, .ref q12, .ref q13, .ref q14])) := (u61.n rfl e0_60)
  refine tGet 0 e0_61 dX7_init_182 fl_X7_28 (Nat.le_of_ble_eq_true rfl) rfl ?_
  refine rIload_n dX7_init_185 rfl ?_
  refine rIconst (v := -1) dX7_init_186 (by decide) ?_
  refine tIast (i := 10) 7 e7_61 dX7_init_187 (Nat.le_of_ble_eq_true rfl) (by decide) (by decide) (fun f62 u62 => ?_)
  have e7_62 := u62.s
  refine rIinc (v := nI 11) dX7_init_188 rfl (by rfl) (by decide) ?_
  show RW G _ _ _ _ 191 [some (.ref a), some (.int (nI 11))] _ _ _ _
  refine rGoto (tgt := 175) dX7_init_191 (by decide) ?_
  refine rIload_n dX7_init_175 rfl ?_
  refine rBipush (v := nI 12) dX7_init_176 (by decide) ?_
  refine r_icmp_ge (tgt := 194) dX7_init_178 (by decide) (fun c => absurd c (by decide)) (fun c => ?_)
  refine rAload_n dX7_init_181 rfl ?_
  have e0_62 : f62 0 = (a, .inr (7, [.int 0, .int 0, .int 0, .int 0, .ref q0, .ref q1, .ref q2, .ref q3, .ref q4, .ref q5, .ref q6, .ref q7, .ref q8, .ref q9, .ref q10, .ref q11, .ref q12, .ref q13, .ref q14])) := (u62.n rfl e0_61)
  refine tGet 0 e0_62 dX7_init_182 fl_X7_28 (Nat.le_of_ble_eq_true rfl) rfl ?_
  refine rIload_n dX7_init_185 rfl ?_
  refine rIconst (v := -1) dX7_init_186 (by decide) ?_
  refine tIast (i := 11) 7 e7_62 dX7_init_187 (Nat.le_of_ble_eq_true rfl) (by decide) (by decide) (fun f63 u63 => ?_)
  have e7_63 := u63.s
  refine rIinc (v := nI 12) dX7_init_188 rfl (by rfl) (by decide) ?_
  show RW G _ _ _ _ 191 [some (.ref a), some (.int (nI 12))] _ _ _ _
  refine rGoto (tgt := 175) dX7_init_191 (by decide) ?_
  refine rIload_n dX7_init_175 rfl ?_
  refine rBipush (v := nI 12) dX7_init_176 (by decide) ?_
  refine r_icmp_ge (tgt := 194) dX7_init_178 (by decide) (fun c => ?_) (fun c => absurd (by decide) c)
  have e0_63 : f63 0 = (a, .inr (7, [.int 0, .int 0, .int 0, .int 0, .ref q0, .ref q1, .ref q2, .ref q3, .ref q4, .ref q5, .ref q6, .ref q7, .ref q8, .ref q9, .ref q10, .ref q11, .ref q12, .ref q13, .ref q14])) := (u63.n rfl e0_62)
  have e1_63 : f63 1 = (q0, .inl (gcy G 0, 100, .inl (fun _ => 0))) := (u63.n rfl (u62.n rfl (u61.n rfl (u60.n rfl (u59.n rfl (u58.n rfl (u57.n rfl (u56.n rfl (u55.n rfl (u54.n rfl (u53.n rfl (u52.n rfl (u51.n rfl (u50.n rfl (u49.n rfl (u48.n rfl (u47.n rfl (u46.n rfl (u45.n rfl (u44.n rfl (u43.n rfl (u42.n rfl (u41.n rfl (u40.n rfl (u39.n rfl (u38.n rfl (u37.n rfl (u36.n rfl (u35.n rfl (u34.n rfl (u33.n rfl (u32.n rfl (u31.n rfl (u30.n rfl (u29.n rfl (u28.n rfl (u27.n rfl (u26.n rfl (u25.n rfl (u24.n rfl (u23.n rfl (u22.n rfl (u21.n rfl (u20.n rfl (u19.n rfl (u18.n rfl (u17.n rfl (u16.n rfl (u15.n rfl (u14.n rfl (u13.n rfl (u12.n rfl (u11.n rfl (u10.n rfl (u9.n rfl (u8.n rfl (u7.n rfl (u6.n rfl (u5.n rfl (u4.n rfl (u3.n rfl (u2.n rfl e1_1))))))))))))))))))))))))))))))))))))))))))))))))))))))))))))))
  have e2_63 : f63 2 = (q1, .inl (gcy G 0, 9, .inl (upd (upd (upd (upd (upd (upd (upd (upd (upd (fun _ => 0) 0 (nI 9)) 1 (nI 9)) 2 (nI 9)) 3 (nI 9)) 4 (nI 9)) 5 (nI 9)) 6 (nI 9)) 7 (nI 9)) 8 (nI 9)))) := (u63.n rfl (u62.n rfl (u61.n rfl (u60.n rfl (u59.n rfl (u58.n rfl (u57.n rfl (u56.n rfl (u55.n rfl (u54.n rfl (u53.n rfl (u52.n rfl (u51.n rfl (u50.n rfl (u49.n rfl (u48.n rfl (u47.n rfl (u46.n rfl (u45.n rfl (u44.n rfl (u43.n rfl (u42.n rfl (u41.n rfl (u40.n rfl e2_39))))))))))))))))))))))))
  have e3_63 : f63 3 = (q2, .inl (gcy G 0, 4, .inl (upd (upd (upd (upd (fun _ => 0) 0 (nI 10)) 1 (nI 10)) 2 (nI 10)) 3 (nI 10)))) := (u63.n rfl (u62.n rfl (u61.n rfl (u60.n rfl (u59.n rfl (u58.n rfl (u57.n rfl (u56.n rfl (u55.n rfl (u54.n rfl (u53.n rfl (u52.n rfl (u51.n rfl (u50.n rfl e3_49))))))))))))))
  have e4_63 : f63 4 = (q3, .inl (gcy G 0, 4, .inl (upd (upd (upd (upd (fun _ => 0) 0 (nI 1)) 1 (nI 1)) 2 (nI 1)) 3 (nI 1)))) := (u63.n rfl (u62.n rfl (u61.n rfl (u60.n rfl (u59.n rfl (u58.n rfl (u57.n rfl (u56.n rfl (u55.n rfl (u54.n rfl (u53.n rfl (u52.n rfl (u51.n rfl e4_50)))))))))))))
  have e5_63 : f63 5 = (q4, .inl (gcy G 0, 4, .inl (upd (upd (upd (upd (fun _ => 0) 0 (nI 20)) 1 (nI 20)) 2 (nI 20)) 3 (nI 20)))) := (u63.n rfl (u62.n rfl (u61.n rfl (u60.n rfl (u59.n rfl (u58.n rfl (u57.n rfl (u56.n rfl (u55.n rfl (u54.n rfl (u53.n rfl (u52.n rfl e5_51))))))))))))
  have e6_63 : f63 6 = (q5, .inl (gcy G 0, 4, .inl (fun _ => 0))) := (u63.n rfl (u62.n rfl (u61.n rfl (u60.n rfl (u59.n rfl (u58.n rfl (u57.n rfl (u56.n rfl (u55.n rfl (u54.n rfl (u53.n rfl (u52.n rfl (u51.n rfl (u50.n rfl (u49.n rfl (u48.n rfl (u47.n rfl (u46.n rfl (u45.n rfl (u44.n rfl (u43.n rfl (u42.n rfl (u41.n rfl (u40.n rfl (u39.n rfl (u38.n rfl (u37.n rfl (u36.n rfl (u35.n rfl (u34.n rfl (u33.n rfl (u32.n rfl (u31.n rfl (u30.n rfl (u29.n rfl (u28.n rfl (u27.n rfl (u26.n rfl (u25.n rfl (u24.n rfl (u23.n rfl (u22.n rfl (u21.n rfl (u20.n rfl (u19.n rfl (u18.n rfl (u17.n rfl (u16.n rfl (u15.n rfl (u14.n rfl (u13.n rfl (u12.n rfl e6_11))))))))))))))))))))))))))))))))))))))))))))))))))))
  have e8_63 : f63 8 = (q7, .inl (gcy G 1, 4, .inl (fun _ => 0))) := (u63.n rfl (u62.n rfl (u61.n rfl (u60.n rfl (u59.n rfl (u58.n rfl (u57.n rfl (u56.n rfl (u55.n rfl (u54.n rfl (u53.n rfl (u52.n rfl (u51.n rfl (u50.n rfl (u49.n rfl (u48.n rfl (u47.n rfl (u46.n rfl (u45.n rfl (u44.n rfl (u43.n rfl (u42.n rfl (u41.n rfl (u40.n rfl (u39.n rfl (u38.n rfl (u37.n rfl (u36.n rfl (u35.n rfl (u34.n rfl (u33.n rfl (u32.n rfl (u31.n rfl (u30.n rfl (u29.n rfl (u28.n rfl (u27.n rfl (u26.n rfl (u25.n rfl (u24.n rfl (u23.n rfl (u22.n rfl (u21.n rfl (u20.n rfl (u19.n rfl (u18.n rfl (u17.n rfl (u16.n rfl e8_15))))))))))))))))))))))))))))))))))))))))))))))))
  have e9_63 : f63 9 = (q8, .inl (gcy G 0, 4, .inl (fun _ => 0))) := (u63.n rfl (u62.n rfl (u61.n rfl (u60.n rfl (u59.n rfl (u58.n rfl (u57.n rfl (u56.n rfl (u55.n rfl (u54.n rfl (u53.n rfl (u52.n rfl (u51.n rfl (u50.n rfl (u49.n rfl (u48.n rfl (u47.n rfl (u46.n rfl (u45.n rfl (u44.n rfl (u43.n rfl (u42.n rfl (u41.n rfl (u40.n rfl (u39.n rfl (u38.n rfl (u37.n rfl (u36.n rfl (u35.n rfl (u34.n rfl (u33.n rfl (u32.n rfl (u31.n rfl (u30.n rfl (u29.n rfl (u28.n rfl (u27.n rfl (u26.n rfl (u25.n rfl (u24.n rfl (u23.n rfl (u22.n rfl (u21.n rfl (u20.n rfl (u19.n rfl (u18.n rfl e9_17))))))))))))))))))))))))))))))))))))))))))))))
  have e10_63 : f63 10 = (q9, .inl (gcy G 0, 24, .inl (fun _ => 0))) := (u63.n rfl (u62.n rfl (u61.n rfl (u60.n rfl (u59.n rfl (u58.n rfl (u57.n rfl (u56.n rfl (u55.n rfl (u54.n rfl (u53.n rfl (u52.n rfl (u51.n rfl (u50.n rfl (u49.n rfl (u48.n rfl (u47.n rfl (u46.n rfl (u45.n rfl (u44.n rfl (u43.n rfl (u42.n rfl (u41.n rfl (u40.n rfl (u39.n rfl (u38.n rfl (u37.n rfl (u36.n rfl (u35.n rfl (u34.n rfl (u33.n rfl (u32.n rfl (u31.n rfl (u30.n rfl (u29.n rfl (u28.n rfl (u27.n rfl (u26.n rfl (u25.n rfl (u24.n rfl (u23.n rfl (u22.n rfl (u21.n rfl (u20.n rfl e10_19))))))))))))))))))))))))))))))))))))))))))))
  have e11_63 : f63 11 = (q10, .inl (gcy G 0, 4, .inl (fun _ => 0))) := (u63.n rfl (u62.n rfl (u61.n rfl (u60.n rfl (u59.n rfl (u58.n rfl (u57.n rfl (u56.n rfl (u55.n rfl (u54.n rfl (u53.n rfl (u52.n rfl (u51.n rfl (u50.n rfl (u49.n rfl (u48.n rfl (u47.n rfl (u46.n rfl (u45.n rfl (u44.n rfl (u43.n rfl (u42.n rfl (u41.n rfl (u40.n rfl (u39.n rfl (u38.n rfl (u37.n rfl (u36.n rfl (u35.n rfl (u34.n rfl (u33.n rfl (u32.n rfl (u31.n rfl (u30.n rfl (u29.n rfl (u28.n rfl (u27.n rfl (u26.n rfl (u25.n rfl (u24.n rfl (u23.n rfl (u22.n rfl e11_21))))))))))))))))))))))))))))))))))))))))))
  have e12_63 : f63 12 = (q11, .inl (gcy G 0, 20, .inl (fun _ => 0))) := (u63.n rfl (u62.n rfl (u61.n rfl (u60.n rfl (u59.n rfl (u58.n rfl (u57.n rfl (u56.n rfl (u55.n rfl (u54.n rfl (u53.n rfl (u52.n rfl (u51.n rfl (u50.n rfl (u49.n rfl (u48.n rfl (u47.n rfl (u46.n rfl (u45.n rfl (u44.n rfl (u43.n rfl (u42.n rfl (u41.n rfl (u40.n rfl (u39.n rfl (u38.n rfl (u37.n rfl (u36.n rfl (u35.n rfl (u34.n rfl (u33.n rfl (u32.n rfl (u31.n rfl (u30.n rfl (u29.n rfl (u28.n rfl (u27.n rfl (u26.n rfl (u25.n rfl (u24.n rfl e12_23))))))))))))))))))))))))))))))))))))))))
  have e13_63 : f63 13 = (q12, .inl (gcy G 0, 2, .inl (fun _ => 0))) := (u63.n rfl (u62.n rfl (u61.n rfl (u60.n rfl (u59.n rfl (u58.n rfl (u57.n rfl (u56.n rfl (u55.n rfl (u54.n rfl (u53.n rfl (u52.n rfl (u51.n rfl (u50.n rfl (u49.n rfl (u48.n rfl (u47.n rfl (u46.n rfl (u45.n rfl (u44.n rfl (u43.n rfl (u42.n rfl (u41.n rfl (u40.n rfl (u39.n rfl (u38.n rfl (u37.n rfl (u36.n rfl (u35.n rfl (u34.n rfl (u33.n rfl (u32.n rfl (u31.n rfl (u30.n rfl (u29.n rfl (u28.n rfl (u27.n rfl (u26.n rfl e13_25))))))))))))))))))))))))))))))))))))))
  have e14_63 : f63 14 = (q13, .inl (gcy G 0, 2, .inl (fun _ => 0))) := (u63.n rfl (u62.n rfl (u61.n rfl (u60.n rfl (u59.n rfl (u58.n rfl (u57.n rfl (u56.n rfl (u55.n rfl (u54.n rfl (u53.n rfl (u52.n rfl (u51.n rfl (u50.n rfl (u49.n rfl (u48.n rfl (u47.n rfl (u46.n rfl (u45.n rfl (u44.n rfl (u43.n rfl (u42.n rfl (u41.n rfl (u40.n rfl (u39.n rfl (u38.n rfl (u37.n rfl (u36.n rfl (u35.n rfl (u34.n rfl (u33.n rfl (u32.n rfl (u31.n rfl (u30.n rfl (u29.n rfl (u28.n rfl e14_27))))))))))))))))))))))))))))))))))))
  have e15_63 : f63 15 = (q14, .inl (gcy G 0, 10, .inl (fun _ => 0))) := (u63.n rfl (u62.n rfl (u61.n rfl (u60.n rfl (u59.n rfl (u58.n rfl (u57.n rfl (u56.n rfl (u55.n rfl (u54.n rfl (u53.n rfl (u52.n rfl (u51.n rfl (u50.n rfl (u49.n rfl (u48.n rfl (u47.n rfl (u46.n rfl (u45.n rfl (u44.n rfl (u43.n rfl (u42.n rfl (u41.n rfl (u40.n rfl (u39.n rfl (u38.n rfl (u37.n rfl (u36.n rfl (u35.n rfl (u34.n rfl (u33.n rfl (u32.n rfl (u31.n rfl (u30.n rfl e15_29))))))))))))))))))))))))))))))))))
  exact rVret dX7_init_194 rfl (Nat.le_of_ble_eq_true rfl) (Nat.le_of_ble_eq_true rfl) ⟨rfl, (fun k => (a :: q0 :: q1 :: q2 :: q3 :: q4 :: q5 :: q6 :: q7 :: q8 :: q9 :: q10 :: q11 :: q12 :: q13 :: q14 :: [] : List Nat).getD k 0), _, rfl, rfl, all_s rfl (all_s rfl (all_s rfl (all_s rfl (all_s rfl (all_s rfl (all_s rfl (all_s rfl (all_s rfl (all_s rfl (all_s rfl (all_s rfl (all_s rfl (all_s rfl (all_s rfl (all_s rfl (all_0) e0_63) e1_63) e2_63) e3_63) e4_63) e5_63) e6_63) e7_63) e8_63) e9_63) e10_63) e11_63) e12_63) e13_63) e14_63) e15_63⟩
