/-! the constructors of the hall: the world as a table (by program) -/
def tab (n : Nat) (f : Nat → Nat × va_E) : va_W := (List.range n).map f
theorem tab_len {n : Nat} {f : Nat → Nat × va_E} : (tab n f).length = n := by unfold tab; rw [List.length_map, List.length_range]
theorem tab_get {n i : Nat} {f : Nat → Nat × va_E} (h : i < n) : (tab n f)[i]? = some (f i) := by
  unfold tab
  rw [List.getElem?_map, List.getElem?_range h]
  rfl
theorem tab_no {n i : Nat} {f : Nat → Nat × va_E} (h : ¬ i < n) : (tab n f)[i]? = none := List.getElem?_eq_none (by rw [tab_len]; omega)
theorem tab_set {n i : Nat} {f : Nat → Nat × va_E} {x : Nat × va_E} (h : i < n) : (tab n f).set i x = tab n (va_up f i x) := by
  apply List.ext_getElem?
  intro j
  by_cases e : j = i
  · subst e
    rw [List.getElem?_set_self (by rw [tab_len]; exact h), tab_get h]
    simp [va_up]
  · rw [List.getElem?_set_ne (Ne.symm e)]
    by_cases hl : j < n
    · rw [tab_get hl, tab_get hl]
      simp [va_up, e]
    · rw [tab_no hl, tab_no hl]
theorem tab_cat {n n' : Nat} {f : Nat → Nat × va_E} {l : va_W} (h : n + l.length = n') : tab n f ++ l = tab n' (fun k => if k < n then f k else l.getD (k - n) (0, .inr (0, []))) := by
  subst h
  apply List.ext_getElem?
  intro j
  by_cases hj : j < n
  · rw [List.getElem?_append_left (by rw [tab_len]; exact hj), tab_get hj, tab_get (by omega), if_pos hj]
  · rw [List.getElem?_append_right (by rw [tab_len]; omega), tab_len]
    by_cases h2 : j < n + l.length
    · rw [tab_get h2, if_neg hj, List.getD_eq_getElem?_getD, List.getElem?_eq_getElem (by omega)]
      rfl
    · rw [tab_no h2, List.getElem?_eq_none (by omega)]
theorem tab_app {n n' : Nat} {f : Nat → Nat × va_E} {x : Nat × va_E} (h : n + 1 = n') : tab n f ++ [x] = tab n' (va_up f n x) := by
  rw [tab_cat (l := [x]) h]
  unfold tab
  apply List.map_congr_left
  intro k hk
  have hk : k < n' := List.mem_range.mp hk
  by_cases e : k = n
  · subst e
    simp [va_up]
  · have : k < n := by omega
    simp [va_up, e, this]
theorem tab_open {n n' : Nat} {f : Nat → Nat × va_E} (h : n + 1 = n') : tab n' f = tab n f ++ [f n] := by
  subst h
  unfold tab
  rw [List.range_succ, List.map_append]
  rfl
theorem tab_ext {n : Nat} {f g : Nat → Nat × va_E} (h : ∀ k, k < n → f k = g k) : tab n f = tab n g := List.map_congr_left (fun k hk => h k (List.mem_range.mp hk))
theorem all_s {P : Nat → Prop} {n n' : Nat} (hn : n + 1 = n') (h : ∀ k, k < n → P k) (h1 : P n) : ∀ k, k < n' → P k := by
  intro k hk
  by_cases e : k = n
  · rw [e]
    exact h1
  · exact h k (by omega)
theorem all_0 {P : Nat → Prop} : ∀ k, k < 0 → P k := fun k hk => absurd hk (Nat.not_lt_zero k)
section gT
variable {G : gG} {M : mT} {cc : ByteArray} {rm : Room} {QF : Array Value → State → List Frame → State → Prop} {pc : Nat} {L : List (Option Value)} {st : List Value} {pre : va_W} {f : Nat → Nat × va_E} {m m' cells slots : Nat} {a idx ci k N : Nat} {C : String} {T : u_T} {ty : Nat → FieldType} {fs fs' : List Value}
theorem vu_s {g : Nat → Nat × va_E} {i : Nat} {x : Nat × va_E} : va_up g i x i = x := by simp [va_up]
theorem vu_n {g : Nat → Nat × va_E} {i : Nat} {x : Nat × va_E} : ∀ j, j ≠ i → va_up g i x j = g j := fun j h => by simp [va_up, h]
/-- the new table g: x at i, the rest as in f -/
def gUp (f : Nat → Nat × va_E) (i : Nat) (x : Nat × va_E) (g : Nat → Nat × va_E) : Prop := g i = x ∧ ∀ j, j ≠ i → g j = f j
theorem gUp.s {f g : Nat → Nat × va_E} {i : Nat} {x : Nat × va_E} (h : gUp f i x g) : g i = x := h.1
theorem gUp.n {f g : Nat → Nat × va_E} {i j : Nat} {x v : Nat × va_E} (h : gUp f i x g) (hj : Nat.beq j i = false) (e : f j = v) : g j = v := (h.2 j (Nat.ne_of_beq_eq_false hj)).trans e
theorem gUp.of {f : Nat → Nat × va_E} {i : Nat} {x : Nat × va_E} : gUp f i x (va_up f i x) := ⟨vu_s, vu_n⟩
theorem tNew (hd : decode cc pc = .ok (.new idx, 3)) (hc : vwCl[ci]? = some (C, T, N)) (hin : ∀ w ∈ u_ws C T N, w ∈ gWds) (hcl : Cond.classLink (mO M) idx C ∈ gWds) (hins : Cond.instantiable C N ∈ gWds) (hini : Cond.initialized C ∈ gWds) (ht : fTy C T N ty) (hfs : ∀ j, j < N → defaultValue (ty j) = vp_V fs j) (hcs : cells + 1 ≤ rm.cells) (hsl : slots + N ≤ rm.slots) (hm : m + 1 = m') (kk : ∀ (q : Nat) (g : Nat → Nat × va_E), gUp f m (q, .inr (ci, fs)) g → RW G M cc rm QF (pc + 3) L (.ref q :: st) (pre ++ tab m' g) (cells + 1) (slots + N)) : RW G M cc rm QF pc L st (pre ++ tab m f) cells slots :=
  rNew hd hc hin hcl hins hini ht hfs hcs hsl (fun q => by rw [List.append_assoc, tab_app hm]; exact kk q _ gUp.of)
theorem tNewI {n : Int32} (hd : decode cc pc = .ok (.newarray .int, 2)) (hn : ¬ n < 0) (hN : n.toNatClampNeg = N) (hb : N * 4 ≤ 536870912) (hcs : cells + 1 ≤ rm.cells) (hsl : slots + N ≤ rm.slots) (hm : m + 1 = m') (kk : ∀ (q : Nat) (g : Nat → Nat × va_E), gUp f m (q, .inl (gcy G 0, N, .inl (fun _ => 0))) g → RW G M cc rm QF (pc + 2) L (.ref q :: st) (pre ++ tab m' g) (cells + 1) (slots + N)) : RW G M cc rm QF pc L (.int n :: st) (pre ++ tab m f) cells slots :=
  rNewI hd wd_aint hn hN hb hcs hsl (fun q => by rw [List.append_assoc, tab_app hm]; exact kk q _ gUp.of)
theorem tNewP {n : Int32} (hd : decode cc pc = .ok (.anewarray idx, 3)) (hcl : Cond.classLink (mO M) idx RX2 ∈ gWds) (hn : ¬ n < 0) (hN : n.toNatClampNeg = N) (hb : N * 4 ≤ 536870912) (hcs : cells + 1 ≤ rm.cells) (hsl : slots + N ≤ rm.slots) (hm : m + 1 = m') (kk : ∀ (q : Nat) (g : Nat → Nat × va_E), gUp f m (q, .inl (gcy G 1, N, .inr (.inr (.inr (.inr (fun _ => none)))))) g → RW G M cc rm QF (pc + 3) L (.ref q :: st) (pre ++ tab m' g) (cells + 1) (slots + N)) : RW G M cc rm QF pc L (.int n :: st) (pre ++ tab m f) cells slots :=
  rNewP hd hcl hn hN hb hcs hsl (fun q => by rw [List.append_assoc, tab_app hm]; exact kk q _ gUp.of)
theorem tq_at {q : Nat} {x : Nat × va_E} (hq : q < m) (he : f q = x) : (pre ++ tab m f)[pre.length + q]? = some x := wget.trans ((tab_get hq).trans (congrArg some he))
theorem tq_set {q : Nat} {x : Nat × va_E} (hq : q < m) : (pre ++ tab m f).set (pre.length + q) x = pre ++ tab m (va_up f q x) := by rw [wset, tab_set hq]
theorem tPutF {v : Value} (q : Nat) (he : f q = (a, .inr (ci, fs))) (hd : decode cc pc = .ok (.putfield idx, 3)) (hf : fLk (mO M) idx ci k C T N) (hg : Cond.fieldLink (mO M) idx (T k).1 (T k).2.1 (T k).2.2.1 ∈ gWds) (ht : fTy C T N ty) (hfin : (T k).2.2.2 = true) (hnm : M.2.1 = "<init>") (hdc : (T k).1 = mO M) (hq : q < m) (hn : narrow (ty k) v = v) (hfit : fits (ty k) v = true) (hl : k < fs.length) (hs : fs.set k v = fs') (kk : ∀ g : Nat → Nat × va_E, gUp f q (a, .inr (ci, fs')) g → RW G M cc rm QF (pc + 3) L st (pre ++ tab m g) cells slots) : RW G M cc rm QF pc L (v :: .ref a :: st) (pre ++ tab m f) cells slots :=
  rPutF hd hf hg ht hfin hnm hdc (pre.length + q) (tq_at hq he) hn hfit hl (by rw [tq_set hq, hs]; exact kk _ gUp.of)
theorem tPut {v : Value} (q : Nat) (he : f q = (a, .inr (ci, fs))) (hd : decode cc pc = .ok (.putfield idx, 3)) (hf : fLk (mO M) idx ci k C T N) (ht : fTy C T N ty) (hfin : (T k).2.2.2 = false) (hq : q < m) (hn : narrow (ty k) v = v) (hfit : fits (ty k) v = true) (hl : k < fs.length) (hs : fs.set k v = fs') (kk : ∀ g : Nat → Nat × va_E, gUp f q (a, .inr (ci, fs')) g → RW G M cc rm QF (pc + 3) L st (pre ++ tab m g) cells slots) : RW G M cc rm QF pc L (v :: .ref a :: st) (pre ++ tab m f) cells slots :=
  rPut hd hf ht hfin (pre.length + q) (tq_at hq he) hn hfit hl (by rw [tq_set hq, hs]; exact kk _ gUp.of)
theorem tGet {v : Value} (q : Nat) (he : f q = (a, .inr (ci, fs))) (hd : decode cc pc = .ok (.getfield idx, 3)) (hf : fLk (mO M) idx ci k C T N) (hq : q < m) (hv : fs[k]? = some v) (kk : RW G M cc rm QF (pc + 3) L (v :: st) (pre ++ tab m f) cells slots) : RW G M cc rm QF pc L (.ref a :: st) (pre ++ tab m f) cells slots :=
  rGet hd hf (pre.length + q) (tq_at hq he) hv kk
theorem tIast {n : Nat} {h : Nat → Int32} {i : Nat} {x : Int32} (q : Nat) (he : f q = (a, .inl (gcy G 0, n, .inl h))) (hd : decode cc pc = .ok (.iastore, 1)) (hq : q < m) (hi : i < n) (hn : n < 2 ^ 31) (kk : ∀ g : Nat → Nat × va_E, gUp f q (a, .inl (gcy G 0, n, .inl (upd h i x))) g → RW G M cc rm QF (pc + 1) L st (pre ++ tab m g) cells slots) : RW G M cc rm QF pc L (.int x :: .int (nI i) :: .ref a :: st) (pre ++ tab m f) cells slots :=
  rIast hd (pre.length + q) (tq_at hq he) (vp_in_nI hi hn) (by rw [tq_set hq, nI_clamp (by omega)]; exact kk _ gUp.of)
theorem tAast {n b i : Nat} {h : Nat → Option Nat} {T : u_T} {N : Nat} (q qk : Nat) (he : f q = (a, .inl (gcy G 1, n, .inr (.inr (.inr (.inr h)))))) (hv : f qk = (b, .inr (ci, fs))) (hd : decode cc pc = .ok (.aastore, 1)) (hq : q < m) (hqk : qk < m) (hc : vwCl[ci]? = some (RX2, T, N)) (hi : i < n) (hn : n < 2 ^ 31) (kk : ∀ g : Nat → Nat × va_E, gUp f q (a, .inl (gcy G 1, n, .inr (.inr (.inr (.inr (va_up h i (some b))))))) g → RW G M cc rm QF (pc + 1) L st (pre ++ tab m g) cells slots) : RW G M cc rm QF pc L (.ref b :: .int (nI i) :: .ref a :: st) (pre ++ tab m f) cells slots :=
  rAast hd (pre.length + q) (pre.length + qk) (tq_at hq he) (tq_at hqk hv) hc (vp_in_nI hi hn) (by rw [tq_set hq, nI_clamp (by omega)]; exact kk _ gUp.of)
/-- ahead of a call of a constructor: the new object stands alone behind -/
theorem tCut {e : Nat × va_E} (hm : m + 1 = m') (he : f m = e) (kk : RW G M cc rm QF pc L st ((pre ++ tab m f) ++ [e]) cells slots) : RW G M cc rm QF pc L st (pre ++ tab m' f) cells slots := by
  rw [tab_open hm, ← List.append_assoc, he]
  exact kk
/-- behind it -/
def gJo (f : Nat → Nat × va_E) (m : Nat) (l : va_W) (g : Nat → Nat × va_E) : Prop := ∀ j, g j = if j < m then f j else l.getD (j - m) (0, .inr (0, []))
theorem gJo.o {f g : Nat → Nat × va_E} {m j : Nat} {l : va_W} {v : Nat × va_E} (h : gJo f m l g) (hj : j < m) (e : f j = v) : g j = v := by rw [h j, if_pos hj]; exact e
theorem gJo.l {f g : Nat → Nat × va_E} {m j : Nat} {l : va_W} {v : Nat × va_E} (h : gJo f m l g) (hj : m ≤ j) (e : l.getD (j - m) (0, .inr (0, [])) = v) : g j = v := by rw [h j, if_neg (Nat.not_lt.mpr hj)]; exact e
theorem tJoin {l : va_W} (hm : m + l.length = m') (kk : ∀ g : Nat → Nat × va_E, gJo f m l g → RW G M cc rm QF pc L st (pre ++ tab m' g) cells slots) : RW G M cc rm QF pc L st ((pre ++ tab m f) ++ l) cells slots := by
  rw [List.append_assoc, tab_cat hm]
  exact kk _ (fun j => rfl)
end gT
theorem nk_X6_9 : Cond.classLink RX6 9 RX2 ∈ gWds := gMem (i := 24) (by decide +kernel) (by rfl)
theorem ni_X2 : Cond.instantiable RX2 8 ∈ gWds := gMem (i := 97) (by decide +kernel) (by rfl)
theorem nn_X2 : Cond.initialized RX2 ∈ gWds := gMem (i := 6) (by decide +kernel) (by rfl)
theorem nd_X2 : ∀ j, j < 8 → defaultValue (tyX2 j) = vp_V [.int 0, .int 0, .int 0, .int 0, .int 0, .null, .null, .null] j := by decide +kernel
theorem hg_X6_11 : Cond.fieldLink RX6 11 (TX6 0).1 (TX6 0).2.1 (TX6 0).2.2.1 ∈ gWds := gMem (i := 155) (by decide +kernel) (by rfl)
theorem nk_X6_15 : Cond.classLink RX6 15 RX3 ∈ gWds := gMem (i := 26) (by decide +kernel) (by rfl)
theorem ni_X3 : Cond.instantiable RX3 1 ∈ gWds := gMem (i := 27) (by decide +kernel) (by rfl)
theorem nn_X3 : Cond.initialized RX3 ∈ gWds := gMem (i := 2) (by decide +kernel) (by rfl)
theorem nd_X3 : ∀ j, j < 1 → defaultValue (tyX3 j) = vp_V [.null] j := by decide +kernel
theorem hg_X6_18 : Cond.fieldLink RX6 18 (TX6 1).1 (TX6 1).2.1 (TX6 1).2.2.1 ∈ gWds := gMem (i := 156) (by decide +kernel) (by rfl)
theorem nk_X6_22 : Cond.classLink RX6 22 RX1 ∈ gWds := gMem (i := 38) (by decide +kernel) (by rfl)
theorem ni_X1 : Cond.instantiable RX1 3 ∈ gWds := gMem (i := 39) (by decide +kernel) (by rfl)
theorem nn_X1 : Cond.initialized RX1 ∈ gWds := gMem (i := 3) (by decide +kernel) (by rfl)
theorem nd_X1 : ∀ j, j < 3 → defaultValue (tyX1 j) = vp_V [.null, .int 0, .int 0] j := by decide +kernel
theorem hg_X6_25 : Cond.fieldLink RX6 25 (TX6 2).1 (TX6 2).2.1 (TX6 2).2.2.1 ∈ gWds := gMem (i := 157) (by decide +kernel) (by rfl)
theorem nk_X6_29 : Cond.classLink RX6 29 RX0 ∈ gWds := gMem (i := 55) (by decide +kernel) (by rfl)
theorem ni_X0 : Cond.instantiable RX0 5 ∈ gWds := gMem (i := 56) (by decide +kernel) (by rfl)
theorem nn_X0 : Cond.initialized RX0 ∈ gWds := gMem (i := 4) (by decide +kernel) (by rfl)
theorem nd_X0 : ∀ j, j < 5 → defaultValue (tyX0 j) = vp_V [.null, .null, .null, .null, .int 0] j := by decide +kernel
theorem hg_X6_32 : Cond.fieldLink RX6 32 (TX6 3).1 (TX6 3).2.1 (TX6 3).2.2.1 ∈ gWds := gMem (i := 158) (by decide +kernel) (by rfl)
def cM6 (G : gG) (ad : Nat → Nat) (k : Nat) : va_E := (.inr (6, [.ref (ad 1), .ref (ad 2), .ref (ad 4), .ref (ad 6), .int 0]) :: .inl (gcy G 1, 4, .inr (.inr (.inr (.inr (va_up (va_up (va_up (va_up (fun _ => none) 0 (some (ad 15))) 1 (some (ad 23))) 2 (some (ad 31))) 3 (some (ad 39))))))) :: .inr (3, [.ref (ad 3)]) :: .inl (gcy G 0, 9, .inl (upd (upd (upd (upd (upd (upd (upd (upd (upd (fun _ => 0) 0 (nI 9)) 1 (nI 9)) 2 (nI 9)) 3 (nI 9)) 4 (nI 9)) 5 (nI 9)) 6 (nI 9)) 7 (nI 9)) 8 (nI 9))) :: .inr (1, [.ref (ad 5), .int 0, .int 0]) :: .inl (gcy G 0, 100, .inl (fun _ => 0)) :: .inr (0, [.ref (ad 7), .ref (ad 10), .ref (ad 13), .ref (ad 14), .int 0]) :: .inr (4, [.ref (ad 8), .ref (ad 9), .int 0, .int 0]) :: .inl (gcy G 0, 5, .inl (fun _ => 0)) :: .inl (gcy G 0, 5, .inl (fun _ => 0)) :: .inr (4, [.ref (ad 11), .ref (ad 12), .int 0, .int 0]) :: .inl (gcy G 0, 5, .inl (fun _ => 0)) :: .inl (gcy G 0, 5, .inl (fun _ => 0)) :: .inl (gcy G 0, 60, .inl (fun _ => 0)) :: .inl (gcy G 0, 60, .inl (fun _ => 0)) :: .inr (2, [.int (nI 10), .int (nI 1), .int (nI 20), .int 0, .int 0, .ref (ad 16), .ref (ad 17), .ref (ad 20)]) :: .inl (gcy G 0, 3, .inl (upd (upd (upd (fun _ => 0) 0 (-1)) 1 (-1)) 2 (-1))) :: .inr (5, [.ref (ad 18), .ref (ad 19), .int 0]) :: .inl (gcy G 0, 6, .inl (fun _ => 0)) :: .inl (gcy G 0, 6, .inl (fun _ => 0)) :: .inr (5, [.ref (ad 21), .ref (ad 22), .int 0]) :: .inl (gcy G 0, 5, .inl (fun _ => 0)) :: .inl (gcy G 0, 5, .inl (fun _ => 0)) :: .inr (2, [.int (nI 10), .int (nI 1), .int (nI 20), .int 0, .int 0, .ref (ad 24), .ref (ad 25), .ref (ad 28)]) :: .inl (gcy G 0, 3, .inl (upd (upd (upd (fun _ => 0) 0 (-1)) 1 (-1)) 2 (-1))) :: .inr (5, [.ref (ad 26), .ref (ad 27), .int 0]) :: .inl (gcy G 0, 6, .inl (fun _ => 0)) :: .inl (gcy G 0, 6, .inl (fun _ => 0)) :: .inr (5, [.ref (ad 29), .ref (ad 30), .int 0]) :: .inl (gcy G 0, 5, .inl (fun _ => 0)) :: .inl (gcy G 0, 5, .inl (fun _ => 0)) :: .inr (2, [.int (nI 10), .int (nI 1), .int (nI 20), .int 0, .int 0, .ref (ad 32), .ref (ad 33), .ref (ad 36)]) :: .inl (gcy G 0, 3, .inl (upd (upd (upd (fun _ => 0) 0 (-1)) 1 (-1)) 2 (-1))) :: .inr (5, [.ref (ad 34), .ref (ad 35), .int 0]) :: .inl (gcy G 0, 6, .inl (fun _ => 0)) :: .inl (gcy G 0, 6, .inl (fun _ => 0)) :: .inr (5, [.ref (ad 37), .ref (ad 38), .int 0]) :: .inl (gcy G 0, 5, .inl (fun _ => 0)) :: .inl (gcy G 0, 5, .inl (fun _ => 0)) :: .inr (2, [.int (nI 10), .int (nI 1), .int (nI 20), .int 0, .int 0, .ref (ad 40), .ref (ad 41), .ref (ad 44)]) :: .inl (gcy G 0, 3, .inl (upd (upd (upd (fun _ => 0) 0 (-1)) 1 (-1)) 2 (-1))) :: .inr (5, [.ref (ad 42), .ref (ad 43), .int 0]) :: .inl (gcy G 0, 6, .inl (fun _ => 0)) :: .inl (gcy G 0, 6, .inl (fun _ => 0)) :: .inr (5, [.ref (ad 45), .ref (ad 46), .int 0]) :: .inl (gcy G 0, 5, .inl (fun _ => 0)) :: .inl (gcy G 0, 5, .inl (fun _ => 0)) :: [] : List va_E).getD k (.inr (0, []))
set_option maxRecDepth 100000 in
set_option maxHeartbeats 40000000 in
theorem i_X6 {G : gG} {pre : va_W} {a : Nat} : CT G mX6_init cX6_init (rmD 4 60 1000) [.ref a] (pre ++ tab 1 (fun _ => (a, .inr (6, [.null, .null, .null, .null, .int 0])))) (fun v w => v = none ∧ ∃ (ad : Nat → Nat) (f : Nat → Nat × va_E), ad 0 = a ∧ w = pre ++ tab 47 f ∧ ∀ k, k < 47 → f k = (ad k, cM6 G ad k)) (fun _ _ => False) := by
  refine CT.of rfl (by decide +kernel) (by intro v hv; simp only [List.mem_cons, List.not_mem_nil, or_false] at hv; rcases hv with rfl <;> rfl) (Nat.le_of_ble_eq_true rfl) ?_
  show RW G _ _ _ _ 0 [some (.ref a), none] [] _ 0 0
  obtain ⟨f0, hf0⟩ : ∃ f0 : Nat → Nat × va_E, f0 = fun _ => (a, .inr (6, [.null, .null, .null, .null, .int 0])) := ⟨_, rfl⟩
  rw [← hf0]
  have e0_0 : f0 0 = (a, .inr (6, [.null, .null, .null, .null, .int 0])) := by rw [hf0]
  refine rAload_n dX6_init_0 rfl ?_
  refine rObjInit dX6_init_1 lo_X6_1 wd_oi wd_oc (Nat.le_of_ble_eq_true rfl) (Nat.le_of_ble_eq_true rfl) ?_
  refine rAload_n dX6_init_4 rfl ?_
  refine rIconst (v := nI 4) dX6_init_5 (by decide) ?_
  refine tNewP (N := 4) dX6_init_6 nk_X6_9 (by decide) (by decide) (by decide) (Nat.le_of_ble_eq_true rfl) (Nat.le_of_ble_eq_true rfl) rfl (fun q0 f1 u1 => ?_)
  have e1_1 := u1.s
  have e0_1 : f1 0 = (a, .inr (6, [.null, .null, .null, .null, .int 0])) := (u1.n rfl e0_0)
  refine tPutF (fs' := [.ref q0, .null, .null, .null, .int 0]) 0 e0_1 dX6_init_9 fl_X6_11 hg_X6_11 ft_X6 rfl rfl rfl (Nat.le_of_ble_eq_true rfl) rfl rfl (Nat.le_of_ble_eq_true rfl) rfl (fun f2 u2 => ?_)
  have e0_2 := u2.s
  refine rAload_n dX6_init_12 rfl ?_
  refine tNew (ci := 3) (fs := [.null]) dX6_init_13 rfl in_X3 nk_X6_15 ni_X3 nn_X3 ft_X3 nd_X3 (Nat.le_of_ble_eq_true rfl) (Nat.le_of_ble_eq_true rfl) rfl (fun q1 f3 u3 => ?_)
  have e2_3 := u3.s
  refine rDup dX6_init_16 rfl ?_
  refine tCut (m := 2) rfl e2_3 ?_
  refine rCall (mc := (rmD 2 1 9).cells) (ms := (rmD 2 1 9).slots) (rest := [.ref q1, .ref a]) (rRunI (M' := mX3_init) (As := []) dX6_init_17 rfl rfl rfl mk_X3_init mi_X3_init ll_X6_17 ⟨(Nat.le_of_ble_eq_true rfl), (Nat.le_of_ble_eq_true rfl)⟩ rfl (Nat.le_of_ble_eq_true rfl) (Nat.le_of_ble_eq_true rfl) (Nat.le_of_ble_eq_true rfl) i_X3) (fun v w hv => ?_)
  obtain ⟨rfl, q2, rfl⟩ := hv
  refine tJoin (m' := 4) rfl (fun f4 u4 => ?_)
  have e2_4 : f4 2 = (q1, .inr (3, [.ref q2])) := u4.l (Nat.le_of_ble_eq_true rfl) rfl
  have e3_4 : f4 3 = (q2, .inl (gcy G 0, 9, .inl (upd (upd (upd (upd (upd (upd (upd (upd (upd (fun _ => 0) 0 (nI 9)) 1 (nI 9)) 2 (nI 9)) 3 (nI 9)) 4 (nI 9)) 5 (nI 9)) 6 (nI 9)) 7 (nI 9)) 8 (nI 9)))) := u4.l (Nat.le_of_ble_eq_true rfl) rfl
  have e0_4 : f4 0 = (a, .inr (6, [.ref q0, .null, .null, .null, .int 0])) := (u4.o (Nat.le_of_ble_eq_true rfl) (u3.n rfl e0_2))
  refine tPutF (fs' := [.ref q0, .ref q1, .null, .null, .int 0]) 0 e0_4 dX6_init_20 fl_X6_18 hg_X6_18 ft_X6 rfl rfl rfl (Nat.le_of_ble_eq_true rfl) rfl rfl (Nat.le_of_ble_eq_true rfl) rfl (fun f5 u5 => ?_)
  have e0_5 := u5.s
  refine rAload_n dX6_init_23 rfl ?_
  refine tNew (ci := 1) (fs := [.null, .int 0, .int 0]) dX6_init_24 rfl in_X1 nk_X6_22 ni_X1 nn_X1 ft_X1 nd_X1 (Nat.le_of_ble_eq_true rfl) (Nat.le_of_ble_eq_true rfl) rfl (fun q3 f6 u6 => ?_)
  have e4_6 := u6.s
  refine rDup dX6_init_27 rfl ?_
  refine tCut (m := 4) rfl e4_6 ?_
  refine rCall (mc := (rmD 2 1 100).cells) (ms := (rmD 2 1 100).slots) (rest := [.ref q3, .ref a]) (rRunI (M' := mX1_init) (As := []) dX6_init_28 rfl rfl rfl mk_X1_init mi_X1_init ll_X6_24 ⟨(Nat.le_of_ble_eq_true rfl), (Nat.le_of_ble_eq_true rfl)⟩ rfl (Nat.le_of_ble_eq_true rfl) (Nat.le_of_ble_eq_true rfl) (Nat.le_of_ble_eq_true rfl) i_X1) (fun v w hv => ?_)
  obtain ⟨rfl, q4, rfl⟩ := hv
  refine tJoin (m' := 6) rfl (fun f7 u7 => ?_)
  have e4_7 : f7 4 = (q3, .inr (1, [.ref q4, .int 0, .int 0])) := u7.l (Nat.le_of_ble_eq_true rfl) rfl
  have e5_7 : f7 5 = (q4, .inl (gcy G 0, 100, .inl (fun _ => 0))) := u7.l (Nat.le_of_ble_eq_true rfl) rfl
  have e0_7 : f7 0 = (a, .inr (6, [.ref q0, .ref q1, .null, .null, .int 0])) := (u7.o (Nat.le_of_ble_eq_true rfl) (u6.n rfl e0_5))
  refine tPutF (fs' := [.ref q0, .ref q1, .ref q3, .null, .int 0]) 0 e0_7 dX6_init_31 fl_X6_25 hg_X6_25 ft_X6 rfl rfl rfl (Nat.le_of_ble_eq_true rfl) rfl rfl (Nat.le_of_ble_eq_true rfl) rfl (fun f8 u8 => ?_)
  have e0_8 := u8.s
  refine rAload_n dX6_init_34 rfl ?_
  refine tNew (ci := 0) (fs := [.null, .null, .null, .null, .int 0]) dX6_init_35 rfl in_X0 nk_X6_29 ni_X0 nn_X0 ft_X0 nd_X0 (Nat.le_of_ble_eq_true rfl) (Nat.le_of_ble_eq_true rfl) rfl (fun q5 f9 u9 => ?_)
  have e6_9 := u9.s
  refine rDup dX6_init_38 rfl ?_
  refine tCut (m := 6) rfl e6_9 ?_
  refine rCall (mc := (rmD 3 10 200).cells) (ms := (rmD 3 10 200).slots) (rest := [.ref q5, .ref a]) (rRunI (M' := mX0_init) (As := []) dX6_init_39 rfl rfl rfl mk_X0_init mi_X0_init ll_X6_31 ⟨(Nat.le_of_ble_eq_true rfl), (Nat.le_of_ble_eq_true rfl)⟩ rfl (Nat.le_of_ble_eq_true rfl) (Nat.le_of_ble_eq_true rfl) (Nat.le_of_ble_eq_true rfl) i_X0) (fun v w hv => ?_)
  obtain ⟨rfl, q6, q7, q8, q9, q10, q11, q12, q13, rfl⟩ := hv
  refine tJoin (m' := 15) rfl (fun f10 u10 => ?_)
  have e6_10 : f10 6 = (q5, .inr (0, [.ref q6, .ref q9, .ref q12, .ref q13, .int 0])) := u10.l (Nat.le_of_ble_eq_true rfl) rfl
  have e7_10 : f10 7 = (q6, .inr (4, [.ref q7, .ref q8, .int 0, .int 0])) := u10.l (Nat.le_of_ble_eq_true rfl) rfl
  have e8_10 : f10 8 = (q7, .inl (gcy G 0, 5, .inl (fun _ => 0))) := u10.l (Nat.le_of_ble_eq_true rfl) rfl
  have e9_10 : f10 9 = (q8, .inl (gcy G 0, 5, .inl (fun _ => 0))) := u10.l (Nat.le_of_ble_eq_true rfl) rfl
  have e10_10 : f10 10 = (q9, .inr (4, [.ref q10, .ref q11, .int 0, .int 0])) := u10.l (Nat.le_of_ble_eq_true rfl) rfl
  have e11_10 : f10 11 = (q10, .inl (gcy G 0, 5, .inl (fun _ => 0))) := u10.l (Nat.le_of_ble_eq_true rfl) rfl
  have e12_10 : f10 12 = (q11, .inl (gcy G 0, 5, .inl (fun _ => 0))) := u10.l (Nat.le_of_ble_eq_true rfl) rfl
  have e13_10 : f10 13 = (q12, .inl (gcy G 0, 60, .inl (fun _ => 0))) := u10.l (Nat.le_of_ble_eq_true rfl) rfl
  have e14_10 : f10 14 = (q13, .inl (gcy G 0, 60, .inl (fun _ => 0))) := u10.l (Nat.le_of_ble_eq_true rfl) rfl
  have e0_10 : f10 0 = (a, .inr (6, [.ref q0, .ref q1, .ref q3, .null, .int 0])) := (u10.o (Nat.le_of_ble_eq_true rfl) (u9.n rfl e0_8))
  refine tPutF (fs' := [.ref q0, .ref q1, .ref q3, .ref q5, .int 0]) 0 e0_10 dX6_init_42 fl_X6_32 hg_X6_32 ft_X6 rfl rfl rfl (Nat.le_of_ble_eq_true rfl) rfl rfl (Nat.le_of_ble_eq_true rfl) rfl (fun f11 u11 => ?_)
  have e0_11 := u11.s
  refine rIconst (v := nI 0) dX6_init_45 (by decide) ?_
  refine rIstore_n dX6_init_46 (by decide) ?_
  show RW G _ _ _ _ 47 [some (.ref a), some (.int (nI 0))] _ _ _ _
  refine rIload_n dX6_init_47 rfl ?_
  refine rIconst (v := nI 4) dX6_init_48 (by decide) ?_
  refine r_icmp_ge (tgt := 71) dX6_init_49 (by decide) (fun c => absurd c (by decide)) (fun c => ?_)
  refine rAload_n dX6_init_52 rfl ?_
  refine tGet 0 e0_11 dX6_init_53 fl_X6_11 (Nat.le_of_ble_eq_true rfl) rfl ?_
  refine rIload_n dX6_init_56 rfl ?_
  refine tNew (ci := 2) (fs := [.int 0, .int 0, .int 0, .int 0, .int 0, .null, .null, .null]) dX6_init_57 rfl in_X2 nk_X6_9 ni_X2 nn_X2 ft_X2 nd_X2 (Nat.le_of_ble_eq_true rfl) (Nat.le_of_ble_eq_true rfl) rfl (fun q14 f12 u12 => ?_)
  have e15_12 := u12.s
  refine rDup dX6_init_60 rfl ?_
  refine tCut (m := 15) rfl e15_12 ?_
  refine rCall (mc := (rmD 3 8 50).cells) (ms := (rmD 3 8 50).slots) (rest := [.ref q14, .int (nI 0), .ref q0]) (rRunI (M' := mX2_init) (As := []) dX6_init_61 rfl rfl rfl mk_X2_init mi_X2_init ll_X6_36 ⟨(Nat.le_of_ble_eq_true rfl), (Nat.le_of_ble_eq_true rfl)⟩ rfl (Nat.le_of_ble_eq_true rfl) (Nat.le_of_ble_eq_true rfl) (Nat.le_of_ble_eq_true rfl) i_X2) (fun v w hv => ?_)
  obtain ⟨rfl, q15, q16, q17, q18, q19, q20, q21, rfl⟩ := hv
  refine tJoin (m' := 23) rfl (fun f13 u13 => ?_)
  have e15_13 : f13 15 = (q14, .inr (2, [.int (nI 10), .int (nI 1), .int (nI 20), .int 0, .int 0, .ref q15, .ref q16, .ref q19])) := u13.l (Nat.le_of_ble_eq_true rfl) rfl
  have e16_13 : f13 16 = (q15, .inl (gcy G 0, 3, .inl (upd (upd (upd (fun _ => 0) 0 (-1)) 1 (-1)) 2 (-1)))) := u13.l (Nat.le_of_ble_eq_true rfl) rfl
  have e17_13 : f13 17 = (q16, .inr (5, [.ref q17, .ref q18, .int 0])) := u13.l (Nat.le_of_ble_eq_true rfl) rfl
  have e18_13 : f13 18 = (q17, .inl (gcy G 0, 6, .inl (fun _ => 0))) := u13.l (Nat.le_of_ble_eq_true rfl) rfl
  have e19_13 : f13 19 = (q18, .inl (gcy G 0, 6, .inl (fun _ => 0))) := u13.l (Nat.le_of_ble_eq_true rfl) rfl
  have e20_13 : f13 20 = (q19, .inr (5, [.ref q20, .ref q21, .int 0])) := u13.l (Nat.le_of_ble_eq_true rfl) rfl
  have e21_13 : f13 21 = (q20, .inl (gcy G 0, 5, .inl (fun _ => 0))) := u13.l (Nat.le_of_ble_eq_true rfl) rfl
  have e22_13 : f13 22 = (q21, .inl (gcy G 0, 5, .inl (fun _ => 0))) := u13.l (Nat.le_of_ble_eq_true rfl) rfl
  have e1_13 : f13 1 = (q0, .inl (gcy G 1, 4, .inr (.inr (.inr (.inr (fun _ => none)))))) := (u13.o (Nat.le_of_ble_eq_true rfl) (u12.n rfl (u11.n rfl (u10.o (Nat.le_of_ble_eq_true rfl) (u9.n rfl (u8.n rfl (u7.o (Nat.le_of_ble_eq_true rfl) (u6.n rfl (u5.n rfl (u4.o (Nat.le_of_ble_eq_true rfl) (u3.n rfl (u2.n rfl e1_1))))))))))))
  refine tAast (i := 0) 1 15 e1_13 e15_13 dX6_init_64 (Nat.le_of_ble_eq_true rfl) (Nat.le_of_ble_eq_true rfl) rfl (by decide) (by decide) (fun f14 u14 => ?_)
  have e1_14 := u14.s
  refine rIinc (v := nI 1) dX6_init_65 rfl (by rfl) (by decide) ?_
  show RW G _ _ _ _ 68 [some (.ref a), some (.int (nI 1))] _ _ _ _
  refine rGoto (tgt := 47) dX6_init_68 (by decide) ?_
  refine rIload_n dX6_init_47 rfl ?_
  refine rIconst (v := nI 4) dX6_init_48 (by decide) ?_
  refine r_icmp_ge (tgt := 71) dX6_init_49 (by decide) (fun c => absurd c (by decide)) (fun c => ?_)
  refine rAload_n dX6_init_52 rfl ?_
  have e0_14 : f14 0 = (a, .inr (6, [.ref q0, .ref q1, .ref q3, .ref q5, .int 0])) := (u14.n rfl (u13.o (Nat.le_of_ble_eq_true rfl) (u12.n rfl e0_11)))
  refine tGet 0 e0_14 dX6_init_53 fl_X6_11 (Nat.le_of_ble_eq_true rfl) rfl ?_
  refine rIload_n dX6_init_56 rfl ?_
  refine tNew (ci := 2) (fs := [.int 0, .int 0, .int 0, .int 0, .int 0, .null, .null, .null]) dX6_init_57 rfl in_X2 nk_X6_9 ni_X2 nn_X2 ft_X2 nd_X2 (Nat.le_of_ble_eq_true rfl) (Nat.le_of_ble_eq_true rfl) rfl (fun q22 f15 u15 => ?_)
  have e23_15 := u15.s
  refine rDup dX6_init_60 rfl ?_
  refine tCut (m := 23) rfl e23_15 ?_
  refine rCall (mc := (rmD 3 8 50).cells) (ms := (rmD 3 8 50).slots) (rest := [.ref q22, .int (nI 1), .ref q0]) (rRunI (M' := mX2_init) (As := []) dX6_init_61 rfl rfl rfl mk_X2_init mi_X2_init ll_X6_36 ⟨(Nat.le_of_ble_eq_true rfl), (Nat.le_of_ble_eq_true rfl)⟩ rfl (Nat.le_of_ble_eq_true rfl) (Nat.le_of_ble_eq_true rfl) (Nat.le_of_ble_eq_true rfl) i_X2) (fun v w hv => ?_)
  obtain ⟨rfl, q23, q24, q25, q26, q27, q28, q29, rfl⟩ := hv
  refine tJoin (m' := 31) rfl (fun f16 u16 => ?_)
  have e23_16 : f16 23 = (q22, .inr (2, [.int (nI 10), .int (nI 1), .int (nI 20), .int 0, .int 0, .ref q23, .ref q24, .ref q27])) := u16.l (Nat.le_of_ble_eq_true rfl) rfl
  have e24_16 : f16 24 = (q23, .inl (gcy G 0, 3, .inl (upd (upd (upd (fun _ => 0) 0 (-1)) 1 (-1)) 2 (-1)))) := u16.l (Nat.le_of_ble_eq_true rfl) rfl
  have e25_16 : f16 25 = (q24, .inr (5, [.ref q25, .ref q26, .int 0])) := u16.l (Nat.le_of_ble_eq_true rfl) rfl
  have e26_16 : f16 26 = (q25, .inl (gcy G 0, 6, .inl (fun _ => 0))) := u16.l (Nat.le_of_ble_eq_true rfl) rfl
  have e27_16 : f16 27 = (q26, .inl (gcy G 0, 6, .inl (fun _ => 0))) := u16.l (Nat.le_of_ble_eq_true rfl) rfl
  have e28_16 : f16 28 = (q27, .inr (5, [.ref q28, .ref q29, .int 0])) := u16.l (Nat.le_of_ble_eq_true rfl) rfl
  have e29_16 : f16 29 = (q28, .inl (gcy G 0, 5, .inl (fun _ => 0))) := u16.l (Nat.le_of_ble_eq_true rfl) rfl
  have e30_16 : f16 30 = (q29, .inl (gcy G 0, 5, .inl (fun _ => 0))) := u16.l (Nat.le_of_ble_eq_true rfl) rfl
  have e1_16 : f16 1 = (q0, .inl (gcy G 1, 4, .inr (.inr (.inr (.inr (va_up (fun _ => none) 0 (some q14))))))) := (u16.o (Nat.le_of_ble_eq_true rfl) (u15.n rfl e1_14))
  refine tAast (i := 1) 1 23 e1_16 e23_16 dX6_init_64 (Nat.le_of_ble_eq_true rfl) (Nat.le_of_ble_eq_true rfl) rfl (by decide) (by decide) (fun f17 u17 => ?_)
  have e1_17 := u17.s
  refine rIinc (v := nI 2) dX6_init_65 rfl (by rfl) (by decide) ?_
  show RW G _ _ _ _ 68 [some (.ref a), some (.int (nI 2))] _ _ _ _
  refine rGoto (tgt := 47) dX6_init_68 (by decide) ?_
  refine rIload_n dX6_init_47 rfl ?_
  refine rIconst (v := nI 4) dX6_init_48 (by decide) ?_
  refine r_icmp_ge (tgt := 71) dX6_init_49 (by decide) (fun c => absurd c (by decide)) (fun c => ?_)
  refine rAload_n dX6_init_52 rfl ?_
  have e0_17 : f17 0 = (a, .inr (6, [.ref q0, .ref q1, .ref q3, .ref q5, .int 0])) := (u17.n rfl (u16.o (Nat.le_of_ble_eq_true rfl) (u15.n rfl e0_14)))
  refine tGet 0 e0_17 dX6_init_53 fl_X6_11 (Nat.le_of_ble_eq_true rfl) rfl ?_
  refine rIload_n dX6_init_56 rfl ?_
  refine tNew (ci := 2) (fs := [.int 0, .int 0, .int 0, .int 0, .int 0, .null, .null, .null]) dX6_init_57 rfl in_X2 nk_X6_9 ni_X2 nn_X2 ft_X2 nd_X2 (Nat.le_of_ble_eq_true rfl) (Nat.le_of_ble_eq_true rfl) rfl (fun q30 f18 u18 => ?_)
  have e31_18 := u18.s
  refine rDup dX6_init_60 rfl ?_
  refine tCut (m := 31) rfl e31_18 ?_
  refine rCall (mc := (rmD 3 8 50).cells) (ms := (rmD 3 8 50).slots) (rest := [.ref q30, .int (nI 2), .ref q0]) (rRunI (M' := mX2_init) (As := []) dX6_init_61 rfl rfl rfl mk_X2_init mi_X2_init ll_X6_36 ⟨(Nat.le_of_ble_eq_true rfl), (Nat.le_of_ble_eq_true rfl)⟩ rfl (Nat.le_of_ble_eq_true rfl) (Nat.le_of_ble_eq_true rfl) (Nat.le_of_ble_eq_true rfl) i_X2) (fun v w hv => ?_)
  obtain ⟨rfl, q31, q32, q33, q34, q35, q36, q37, rfl⟩ := hv
  refine tJoin (m' := 39) rfl (fun f19 u19 => ?_)
  have e31_19 : f19 31 = (q30, .inr (2, [.int (nI 10), .int (nI 1), .int (nI 20), .int 0, .int 0, .ref q31, .ref q32, .ref q35])) := u19.l (Nat.le_of_ble_eq_true rfl) rfl
  have e32_19 : f19 32 = (q31, .inl (gcy G 0, 3, .inl (upd (upd (upd (fun _ => 0) 0 (-1)) 1 (-1)) 2 (-1)))) := u19.l (Nat.le_of_ble_eq_true rfl) rfl
  have e33_19 : f19 33 = (q32, .inr (5, [.ref q33, .ref q34, .int 0])) := u19.l (Nat.le_of_ble_eq_true rfl) rfl
  have e34_19 : f19 34 = (q33, .inl (gcy G 0, 6, .inl (fun _ => 0))) := u19.l (Nat.le_of_ble_eq_true rfl) rfl
  have e35_19 : f19 35 = (q34, .inl (gcy G 0, 6, .inl (fun _ => 0))) := u19.l (Nat.le_of_ble_eq_true rfl) rfl
  have e36_19 : f19 36 = (q35, .inr (5, [.ref q36, .ref q37, .int 0])) := u19.l (Nat.le_of_ble_eq_true rfl) rfl
  have e37_19 : f19 37 = (q36, .inl (gcy G 0, 5, .inl (fun _ => 0))) := u19.l (Nat.le_of_ble_eq_true rfl) rfl
  have e38_19 : f19 38 = (q37, .inl (gcy G 0, 5, .inl (fun _ => 0))) := u19.l (Nat.le_of_ble_eq_true rfl) rfl
  have e1_19 : f19 1 = (q0, .inl (gcy G 1, 4, .inr (.inr (.inr (.inr (va_up (va_up (fun _ => none) 0 (some q14)) 1 (some q22))))))) := (u19.o (Nat.le_of_ble_eq_true rfl) (u18.n rfl e1_17))
  refine tAast (i := 2) 1 31 e1_19 e31_19 dX6_init_64 (Nat.le_of_ble_eq_true rfl) (Nat.le_of_ble_eq_true rfl) rfl (by decide) (by decide) (fun f20 u20 => ?_)
  have e1_20 := u20.s
  refine rIinc (v := nI 3) dX6_init_65 rfl (by rfl) (by decide) ?_
  show RW G _ _ _ _ 68 [some (.ref a), some (.int (nI 3))] _ _ _ _
  refine rGoto (tgt := 47) dX6_init_68 (by decide) ?_
  refine rIload_n dX6_init_47 rfl ?_
  refine rIconst (v := nI 4) dX6_init_48 (by decide) ?_
  refine r_icmp_ge (tgt := 71) dX6_init_49 (by decide) (fun c => absurd c (by decide)) (fun c => ?_)
  refine rAload_n dX6_init_52 rfl ?_
  have e0_20 : f20 0 = (a, .inr (6, [.ref q0, .ref q1, .ref q3, .ref q5, .int 0])) := (u20.n rfl (u19.o (Nat.le_of_ble_eq_true rfl) (u18.n rfl e0_17)))
  refine tGet 0 e0_20 dX6_init_53 fl_X6_11 (Nat.le_of_ble_eq_true rfl) rfl ?_
  refine rIload_n dX6_init_56 rfl ?_
  refine tNew (ci := 2) (fs := [.int 0, .int 0, .int 0, .int 0, .int 0, .null, .null, .null]) dX6_init_57 rfl in_X2 nk_X6_9 ni_X2 nn_X2 ft_X2 nd_X2 (Nat.le_of_ble_eq_true rfl) (Nat.le_of_ble_eq_true rfl) rfl (fun q38 f21 u21 => ?_)
  have e39_21 := u21.s
  refine rDup dX6_init_60 rfl ?_
  refine tCut (m := 39) rfl e39_21 ?_
  refine rCall (mc := (rmD 3 8 50).cells) (ms := (rmD 3 8 50).slots) (rest := [.ref q38, .int (nI 3), .ref q0]) (rRunI (M' := mX2_init) (As := []) dX6_init_61 rfl rfl rfl mk_X2_init mi_X2_init ll_X6_36 ⟨(Nat.le_of_ble_eq_true rfl), (Nat.le_of_ble_eq_true rfl)⟩ rfl (Nat.le_of_ble_eq_true rfl) (Nat.le_of_ble_eq_true rfl) (Nat.le_of_ble_eq_true rfl) i_X2) (fun v w hv => ?_)
  obtain ⟨rfl, q39, q40, q41, q42, q43, q44, q45, rfl⟩ := hv
  refine tJoin (m' := 47) rfl (fun f22 u22 => ?_)
  have e39_22 : f22 39 = (q38, .inr (2, [.int (nI 10), .int (nI 1), .int (nI 20), .int 0, .int 0, .ref q39, .ref q40, .ref q43])) := u22.l (Nat.le_of_ble_eq_true rfl) rfl
  have e40_22 : f22 40 = (q39, .inl (gcy G 0, 3, .inl (upd (upd (upd (fun _ => 0) 0 (-1)) 1 (-1)) 2 (-1)))) := u22.l (Nat.le_of_ble_eq_true rfl) rfl
  have e41_22 : f22 41 = (q40, .inr (5, [.ref q41, .ref q42, .int 0])) := u22.l (Nat.le_of_ble_eq_true rfl) rfl
  have e42_22 : f22 42 = (q41, .inl (gcy G 0, 6, .inl (fun _ => 0))) := u22.l (Nat.le_of_ble_eq_true rfl) rfl
  have e43_22 : f22 43 = (q42, .inl (gcy G 0, 6, .inl (fun _ => 0))) := u22.l (Nat.le_of_ble_eq_true rfl) rfl
  have e44_22 : f22 44 = (q43, .inr (5, [.ref q44, .ref q45, .int 0])) := u22.l (Nat.le_of_ble_eq_true rfl) rfl
  have e45_22 : f22 45 = (q44, .inl (gcy G 0, 5, .inl (fun _ => 0))) := u22.l (Nat.le_of_ble_eq_true rfl) rfl
  have e46_22 : f22 46 = (q45, .inl (gcy G 0, 5, .inl (fun _ => 0))) := u22.l (Nat.le_of_ble_eq_true rfl) rfl
  have e1_22 : f22 1 = (q0, .inl (gcy G 1, 4, .inr (.inr (.inr (.inr (va_up (va_up (va_up (fun _ => none) 0 (some q14)) 1 (some q22)) 2 (some q30))))))) := (u22.o (Nat.le_of_ble_eq_true rfl) (u21.n rfl e1_20))
  refine tAast (i := 3) 1 39 e1_22 e39_22 dX6_init_64 (Nat.le_of_ble_eq_true rfl) (Nat.le_of_ble_eq_true rfl) rfl (by decide) (by decide) (fun f23 u23 => ?_)
  have e1_23 := u23.s
  refine rIinc (v := nI 4) dX6_init_65 rfl (by rfl) (by decide) ?_
  show RW G _ _ _ _ 68 [some (.ref a), some (.int (nI 4))] _ _ _ _
  refine rGoto (tgt := 47) dX6_init_68 (by decide) ?_
  refine rIload_n dX6_init_47 rfl ?_
  refine rIconst (v := nI 4) dX6_init_48 (by decide) ?_
  refine r_icmp_ge (tgt := 71) dX6_init_49 (by decide) (fun c => ?_) (fun c => absurd (by decide) c)
  have e0_23 : f23 0 = (a, .inr (6, [.ref q0, .ref q1, .ref q3, .ref q5, .int 0])) := (u23.n rfl (u22.o (Nat.le_of_ble_eq_true rfl) (u21.n rfl e0_20)))
  have e2_23 : f23 2 = (q1, .inr (3, [.ref q2])) := (u23.n rfl (u22.o (Nat.le_of_ble_eq_true rfl) (u21.n rfl (u20.n rfl (u19.o (Nat.le_of_ble_eq_true rfl) (u18.n rfl (u17.n rfl (u16.o (Nat.le_of_ble_eq_true rfl) (u15.n rfl (u14.n rfl (u13.o (Nat.le_of_ble_eq_true rfl) (u12.n rfl (u11.n rfl (u10.o (Nat.le_of_ble_eq_true rfl) (u9.n rfl (u8.n rfl (u7.o (Nat.le_of_ble_eq_true rfl) (u6.n rfl (u5.n rfl e2_4)))))))))))))))))))
  have e3_23 : f23 3 = (q2, .inl (gcy G 0, 9, .inl (upd (upd (upd (upd (upd (upd (upd (upd (upd (fun _ => 0) 0 (nI 9)) 1 (nI 9)) 2 (nI 9)) 3 (nI 9)) 4 (nI 9)) 5 (nI 9)) 6 (nI 9)) 7 (nI 9)) 8 (nI 9)))) := (u23.n rfl (u22.o (Nat.le_of_ble_eq_true rfl) (u21.n rfl (u20.n rfl (u19.o (Nat.le_of_ble_eq_true rfl) (u18.n rfl (u17.n rfl (u16.o (Nat.le_of_ble_eq_true rfl) (u15.n rfl (u14.n rfl (u13.o (Nat.le_of_ble_eq_true rfl) (u12.n rfl (u11.n rfl (u10.o (Nat.le_of_ble_eq_true rfl) (u9.n rfl (u8.n rfl (u7.o (Nat.le_of_ble_eq_true rfl) (u6.n rfl (u5.n rfl e3_4)))))))))))))))))))
  have e4_23 : f23 4 = (q3, .inr (1, [.ref q4, .int 0, .int 0])) := (u23.n rfl (u22.o (Nat.le_of_ble_eq_true rfl) (u21.n rfl (u20.n rfl (u19.o (Nat.le_of_ble_eq_true rfl) (u18.n rfl (u17.n rfl (u16.o (Nat.le_of_ble_eq_true rfl) (u15.n rfl (u14.n rfl (u13.o (Nat.le_of_ble_eq_true rfl) (u12.n rfl (u11.n rfl (u10.o (Nat.le_of_ble_eq_true rfl) (u9.n rfl (u8.n rfl e4_7))))))))))))))))
  have e5_23 : f23 5 = (q4, .inl (gcy G 0, 100, .inl (fun _ => 0))) := (u23.n rfl (u22.o (Nat.le_of_ble_eq_true rfl) (u21.n rfl (u20.n rfl (u19.o (Nat.le_of_ble_eq_true rfl) (u18.n rfl (u17.n rfl (u16.o (Nat.le_of_ble_eq_true rfl) (u15.n rfl (u14.n rfl (u13.o (Nat.le_of_ble_eq_true rfl) (u12.n rfl (u11.n rfl (u10.o (Nat.le_of_ble_eq_true rfl) (u9.n rfl (u8.n rfl e5_7))))))))))))))))
  have e6_23 : f23 6 = (q5, .inr (0, [.ref q6, .ref q9, .ref q12, .ref q13, .int 0])) := (u23.n rfl (u22.o (Nat.le_of_ble_eq_true rfl) (u21.n rfl (u20.n rfl (u19.o (Nat.le_of_ble_eq_true rfl) (u18.n rfl (u17.n rfl (u16.o (Nat.le_of_ble_eq_true rfl) (u15.n rfl (u14.n rfl (u13.o (Nat.le_of_ble_eq_true rfl) (u12.n rfl (u11.n rfl e6_10)))))))))))))
  have e7_23 : f23 7 = (q6, .inr (4, [.ref q7, .ref q8, .int 0, .int 0])) := (u23.n rfl (u22.o (Nat.le_of_ble_eq_true rfl) (u21.n rfl (u20.n rfl (u19.o (Nat.le_of_ble_eq_true rfl) (u18.n rfl (u17.n rfl (u16.o (Nat.le_of_ble_eq_true rfl) (u15.n rfl (u14.n rfl (u13.o (Nat.le_of_ble_eq_true rfl) (u12.n rfl (u11.n rfl e7_10)))))))))))))
  have e8_23 : f23 8 = (q7, .inl (gcy G 0, 5, .inl (fun _ => 0))) := (u23.n rfl (u22.o (Nat.le_of_ble_eq_true rfl) (u21.n rfl (u20.n rfl (u19.o (Nat.le_of_ble_eq_true rfl) (u18.n rfl (u17.n rfl (u16.o (Nat.le_of_ble_eq_true rfl) (u15.n rfl (u14.n rfl (u13.o (Nat.le_of_ble_eq_true rfl) (u12.n rfl (u11.n rfl e8_10)))))))))))))
  have e9_23 : f23 9 = (q8, .inl (gcy G 0, 5, .inl (fun _ => 0))) := (u23.n rfl (u22.o (Nat.le_of_ble_eq_true rfl) (u21.n rfl (u20.n rfl (u19.o (Nat.le_of_ble_eq_true rfl) (u18.n rfl (u17.n rfl (u16.o (Nat.le_of_ble_eq_true rfl) (u15.n rfl (u14.n rfl (u13.o (Nat.le_of_ble_eq_true rfl) (u12.n rfl (u11.n rfl e9_10)))))))))))))
  have e10_23 : f23 10 = (q9, .inr (4, [.ref q10, .ref q11, .int 0, .int 0])) := (u23.n rfl (u22.o (Nat.le_of_ble_eq_true rfl) (u21.n rfl (u20.n rfl (u19.o (Nat.le_of_ble_eq_true rfl) (u18.n rfl (u17.n rfl (u16.o (Nat.le_of_ble_eq_true rfl) (u15.n rfl (u14.n rfl (u13.o (Nat.le_of_ble_eq_true rfl) (u12.n rfl (u11.n rfl e10_10)))))))))))))
  have e11_23 : f23 11 = (q10, .inl (gcy G 0, 5, .inl (fun _ => 0))) := (u23.n rfl (u22.o (Nat.le_of_ble_eq_true rfl) (u21.n rfl (u20.n rfl (u19.o (Nat.le_of_ble_eq_true rfl) (u18.n rfl (u17.n rfl (u16.o (Nat.le_of_ble_eq_true rfl) (u15.n rfl (u14.n rfl (u13.o (Nat.le_of_ble_eq_true rfl) (u12.n rfl (u11.n rfl e11_10)))))))))))))
  have e12_23 : f23 12 = (q11, .inl (gcy G 0, 5, .inl (fun _ => 0))) := (u23.n rfl (u22.o (Nat.le_of_ble_eq_true rfl) (u21.n rfl (u20.n rfl (u19.o (Nat.le_of_ble_eq_true rfl) (u18.n rfl (u17.n rfl (u16.o (Nat.le_of_ble_eq_true rfl) (u15.n rfl (u14.n rfl (u13.o (Nat.le_of_ble_eq_true rfl) (u12.n rfl (u11.n rfl e12_10)))))))))))))
  have e13_23 : f23 13 = (q12, .inl (gcy G 0, 60, .inl (fun _ => 0))) := (u23.n rfl (u22.o (Nat.le_of_ble_eq_true rfl) (u21.n rfl (u20.n rfl (u19.o (Nat.le_of_ble_eq_true rfl) (u18.n rfl (u17.n rfl (u16.o (Nat.le_of_ble_eq_true rfl) (u15.n rfl (u14.n rfl (u13.o (Nat.le_of_ble_eq_true rfl) (u12.n rfl (u11.n rfl e13_10)))))))))))))
  have e14_23 : f23 14 = (q13, .inl (gcy G 0, 60, .inl (fun _ => 0))) := (u23.n rfl (u22.o (Nat.le_of_ble_eq_true rfl) (u21.n rfl (u20.n rfl (u19.o (Nat.le_of_ble_eq_true rfl) (u18.n rfl (u17.n rfl (u16.o (Nat.le_of_ble_eq_true rfl) (u15.n rfl (u14.n rfl (u13.o (Nat.le_of_ble_eq_true rfl) (u12.n rfl (u11.n rfl e14_10)))))))))))))
  have e15_23 : f23 15 = (q14, .inr (2, [.int (nI 10), .int (nI 1), .int (nI 20), .int 0, .int 0, .ref q15, .ref q16, .ref q19])) := (u23.n rfl (u22.o (Nat.le_of_ble_eq_true rfl) (u21.n rfl (u20.n rfl (u19.o (Nat.le_of_ble_eq_true rfl) (u18.n rfl (u17.n rfl (u16.o (Nat.le_of_ble_eq_true rfl) (u15.n rfl (u14.n rfl e15_13))))))))))
  have e16_23 : f23 16 = (q15, .inl (gcy G 0, 3, .inl (upd (upd (upd (fun _ => 0) 0 (-1)) 1 (-1)) 2 (-1)))) := (u23.n rfl (u22.o (Nat.le_of_ble_eq_true rfl) (u21.n rfl (u20.n rfl (u19.o (Nat.le_of_ble_eq_true rfl) (u18.n rfl (u17.n rfl (u16.o (Nat.le_of_ble_eq_true rfl) (u15.n rfl (u14.n rfl e16_13))))))))))
  have e17_23 : f23 17 = (q16, .inr (5, [.ref q17, .ref q18, .int 0])) := (u23.n rfl (u22.o (Nat.le_of_ble_eq_true rfl) (u21.n rfl (u20.n rfl (u19.o (Nat.le_of_ble_eq_true rfl) (u18.n rfl (u17.n rfl (u16.o (Nat.le_of_ble_eq_true rfl) (u15.n rfl (u14.n rfl e17_13))))))))))
  have e18_23 : f23 18 = (q17, .inl (gcy G 0, 6, .inl (fun _ => 0))) := (u23.n rfl (u22.o (Nat.le_of_ble_eq_true rfl) (u21.n rfl (u20.n rfl (u19.o (Nat.le_of_ble_eq_true rfl) (u18.n rfl (u17.n rfl (u16.o (Nat.le_of_ble_eq_true rfl) (u15.n rfl (u14.n rfl e18_13))))))))))
  have e19_23 : f23 19 = (q18, .inl (gcy G 0, 6, .inl (fun _ => 0))) := (u23.n rfl (u22.o (Nat.le_of_ble_eq_true rfl) (u21.n rfl (u20.n rfl (u19.o (Nat.le_of_ble_eq_true rfl) (u18.n rfl (u17.n rfl (u16.o (Nat.le_of_ble_eq_true rfl) (u15.n rfl (u14.n rfl e19_13))))))))))
  have e20_23 : f23 20 = (q19, .inr (5, [.ref q20, .ref q21, .int 0])) := (u23.n rfl (u22.o (Nat.le_of_ble_eq_true rfl) (u21.n rfl (u20.n rfl (u19.o (Nat.le_of_ble_eq_true rfl) (u18.n rfl (u17.n rfl (u16.o (Nat.le_of_ble_eq_true rfl) (u15.n rfl (u14.n rfl e20_13))))))))))
  have e21_23 : f23 21 = (q20, .inl (gcy G 0, 5, .inl (fun _ => 0))) := (u23.n rfl (u22.o (Nat.le_of_ble_eq_true rfl) (u21.n rfl (u20.n rfl (u19.o (Nat.le_of_ble_eq_true rfl) (u18.n rfl (u17.n rfl (u16.o (Nat.le_of_ble_eq_true rfl) (u15.n rfl (u14.n rfl e21_13))))))))))
  have e22_23 : f23 22 = (q21, .inl (gcy G 0, 5, .inl (fun _ => 0))) := (u23.n rfl (u22.o (Nat.le_of_ble_eq_true rfl) (u21.n rfl (u20.n rfl (u19.o (Nat.le_of_ble_eq_true rfl) (u18.n rfl (u17.n rfl (u16.o (Nat.le_of_ble_eq_true rfl) (u15.n rfl (u14.n rfl e22_13))))))))))
  have e23_23 : f23 23 = (q22, .inr (2, [.int (nI 10), .int (nI 1), .int (nI 20), .int 0, .int 0, .ref q23, .ref q24, .ref q27])) := (u23.n rfl (u22.o (Nat.le_of_ble_eq_true rfl) (u21.n rfl (u20.n rfl (u19.o (Nat.le_of_ble_eq_true rfl) (u18.n rfl (u17.n rfl e23_16)))))))
  have e24_23 : f23 24 = (q23, .inl (gcy G 0, 3, .inl (upd (upd (upd (fun _ => 0) 0 (-1)) 1 (-1)) 2 (-1)))) := (u23.n rfl (u22.o (Nat.le_of_ble_eq_true rfl) (u21.n rfl (u20.n rfl (u19.o (Nat.le_of_ble_eq_true rfl) (u18.n rfl (u17.n rfl e24_16)))))))
  have e25_23 : f23 25 = (q24, .inr (5, [.ref q25, .ref q26, .int 0])) := (u23.n rfl (u22.o (Nat.le_of_ble_eq_true rfl) (u21.n rfl (u20.n rfl (u19.o (Nat.le_of_ble_eq_true rfl) (u18.n rfl (u17.n rfl e25_16)))))))
  have e26_23 : f23 26 = (q25, .inl (gcy G 0, 6, .inl (fun _ => 0))) := (u23.n rfl (u22.o (Nat.le_of_ble_eq_true rfl) (u21.n rfl (u20.n rfl (u19.o (Nat.le_of_ble_eq_true rfl) (u18.n rfl (u17.n rfl e26_16)))))))
  have e27_23 : f23 27 = (q26, .inl (gcy G 0, 6, .inl (fun _ => 0))) := (u23.n rfl (u22.o (Nat.le_of_ble_eq_true rfl) (u21.n rfl (u20.n rfl (u19.o (Nat.le_of_ble_eq_true rfl) (u18.n rfl (u17.n rfl e27_16)))))))
  have e28_23 : f23 28 = (q27, .inr (5, [.ref q28, .ref q29, .int 0])) := (u23.n rfl (u22.o (Nat.le_of_ble_eq_true rfl) (u21.n rfl (u20.n rfl (u19.o (Nat.le_of_ble_eq_true rfl) (u18.n rfl (u17.n rfl e28_16)))))))
  have e29_23 : f23 29 = (q28, .inl (gcy G 0, 5, .inl (fun _ => 0))) := (u23.n rfl (u22.o (Nat.le_of_ble_eq_true rfl) (u21.n rfl (u20.n rfl (u19.o (Nat.le_of_ble_eq_true rfl) (u18.n rfl (u17.n rfl e29_16)))))))
  have e30_23 : f23 30 = (q29, .inl (gcy G 0, 5, .inl (fun _ => 0))) := (u23.n rfl (u22.o (Nat.le_of_ble_eq_true rfl) (u21.n rfl (u20.n rfl (u19.o (Nat.le_of_ble_eq_true rfl) (u18.n rfl (u17.n rfl e30_16)))))))
  have e31_23 : f23 31 = (q30, .inr (2, [.int (nI 10), .int (nI 1), .int (nI 20), .int 0, .int 0, .ref q31, .ref q32, .ref q35])) := (u23.n rfl (u22.o (Nat.le_of_ble_eq_true rfl) (u21.n rfl (u20.n rfl e31_19))))
  have e32_23 : f23 32 = (q31, .inl (gcy G 0, 3, .inl (upd (upd (upd (fun _ => 0) 0 (-1)) 1 (-1)) 2 (-1)))) := (u23.n rfl (u22.o (Nat.le_of_ble_eq_true rfl) (u21.n rfl (u20.n rfl e32_19))))
  have e33_23 : f23 33 = (q32, .inr (5, [.ref q33, .ref q34, .int 0])) := (u23.n rfl (u22.o (Nat.le_of_ble_eq_true rfl) (u21.n rfl (u20.n rfl e33_19))))
  have e34_23 : f23 34 = (q33, .inl (gcy G 0, 6, .inl (fun _ => 0))) := (u23.n rfl (u22.o (Nat.le_of_ble_eq_true rfl) (u21.n rfl (u20.n rfl e34_19))))
  have e35_23 : f23 35 = (q34, .inl (gcy G 0, 6, .inl (fun _ => 0))) := (u23.n rfl (u22.o (Nat.le_of_ble_eq_true rfl) (u21.n rfl (u20.n rfl e35_19))))
  have e36_23 : f23 36 = (q35, .inr (5, [.ref q36, .ref q37, .int 0])) := (u23.n rfl (u22.o (Nat.le_of_ble_eq_true rfl) (u21.n rfl (u20.n rfl e36_19))))
  have e37_23 : f23 37 = (q36, .inl (gcy G 0, 5, .inl (fun _ => 0))) := (u23.n rfl (u22.o (Nat.le_of_ble_eq_true rfl) (u21.n rfl (u20.n rfl e37_19))))
  have e38_23 : f23 38 = (q37, .inl (gcy G 0, 5, .inl (fun _ => 0))) := (u23.n rfl (u22.o (Nat.le_of_ble_eq_true rfl) (u21.n rfl (u20.n rfl e38_19))))
  have e39_23 : f23 39 = (q38, .inr (2, [.int (nI 10), .int (nI 1), .int (nI 20), .int 0, .int 0, .ref q39, .ref q40, .ref q43])) := (u23.n rfl e39_22)
  have e40_23 : f23 40 = (q39, .inl (gcy G 0, 3, .inl (upd (upd (upd (fun _ => 0) 0 (-1)) 1 (-1)) 2 (-1)))) := (u23.n rfl e40_22)
  have e41_23 : f23 41 = (q40, .inr (5, [.ref q41, .ref q42, .int 0])) := (u23.n rfl e41_22)
  have e42_23 : f23 42 = (q41, .inl (gcy G 0, 6, .inl (fun _ => 0))) := (u23.n rfl e42_22)
  have e43_23 : f23 43 = (q42, .inl (gcy G 0, 6, .inl (fun _ => 0))) := (u23.n rfl e43_22)
  have e44_23 : f23 44 = (q43, .inr (5, [.ref q44, .ref q45, .int 0])) := (u23.n rfl e44_22)
  have e45_23 : f23 45 = (q44, .inl (gcy G 0, 5, .inl (fun _ => 0))) := (u23.n rfl e45_22)
  have e46_23 : f23 46 = (q45, .inl (gcy G 0, 5, .inl (fun _ => 0))) := (u23.n rfl e46_22)
  exact rVret dX6_init_71 rfl (Nat.le_of_ble_eq_true rfl) (Nat.le_of_ble_eq_true rfl) ⟨rfl, (fun k => (a :: q0 :: q1 :: q2 :: q3 :: q4 :: q5 :: q6 :: q7 :: q8 :: q9 :: q10 :: q11 :: q12 :: q13 :: q14 :: q15 :: q16 :: q17 :: q18 :: q19 :: q20 :: q21 :: q22 :: q23 :: q24 :: q25 :: q26 :: q27 :: q28 :: q29 :: q30 :: q31 :: q32 :: q33 :: q34 :: q35 :: q36 :: q37 :: q38 :: q39 :: q40 :: q41 :: q42 :: q43 :: q44 :: q45 :: [] : List Nat).getD k 0), _, rfl, rfl, all_s rfl (all_s rfl (all_s rfl (all_s rfl (all_s rfl (all_s rfl (all_s rfl (all_s rfl (all_s rfl (all_s rfl (all_s rfl (all_s rfl (all_s rfl (all_s rfl (all_s rfl (all_s rfl (all_s rfl (all_s rfl (all_s rfl (all_s rfl (all_s rfl (all_s rfl (all_s rfl (all_s rfl (all_s rfl (all_s rfl (all_s rfl (all_s rfl (all_s rfl (all_s rfl (all_s rfl (all_s rfl (all_s rfl (all_s rfl (all_s rfl (all_s rfl (all_s rfl (all_s rfl (all_s rfl (all_s rfl (all_s rfl (all_s rfl (all_s rfl (all_s rfl (all_s rfl (all_s rfl (all_s rfl (all_0) e0_23) e1_23) e2_23) e3_23) e4_23) e5_23) e6_23) e7_23) e8_23) e9_23) e10_23) e11_23) e12_23) e13_23) e14_23) e15_23) e16_23) e17_23) e18_23) e19_23) e20_23) e21_23) e22_23) e23_23) e24_23) e25_23) e26_23) e27_23) e28_23) e29_23) e30_23) e31_23) e32_23) e33_23) e34_23) e35_23) e36_23) e37_23) e38_23) e39_23) e40_23) e41_23) e42_23) e43_23) e44_23) e45_23) e46_23⟩
