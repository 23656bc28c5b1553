/-! the constructors of the reference and of the hall: the world as a table (by program) -/
def tab (n : Nat) (f : Nat → Nat × va_E) : va_W := (List.range n).map f
theorem tab_len {n : Nat} {f : Nat → Nat × va_E} : (tab n f).length = n := by unfold tab; rw [List.length_map, List.length_range]
theorem tab_get {n i : Nat} {f : Nat → Nat × va_E} (h : i < n) : (tab n f)[i]? = some (f i) := by
  unfold tab
  rw [List.getElem?_map, List.getElem?_range h]
  rfl
theorem tab_no {n i : Nat} {f : Nat → Nat × va_E} (h : ¬ i < n) : (tab n f)[i]? = none := List.getElem?_eq_none (by rw [tab_len]; omega)
theorem tab_set {n i : Nat} {f : Nat → Nat × va_E} {x : Nat × va_E} (h : i < n) : (tab n f).set i x = tab n (va_up f i x) := by
  apply List.ext_getElem?
  intro j
  by_cases e : j = i
  · subst e
    rw [List.getElem?_set_self (by rw [tab_len]; exact h), tab_get h]
    simp [va_up]
  · rw [List.getElem?_set_ne (Ne.symm e)]
    by_cases hl : j < n
    · rw [tab_get hl, tab_get hl]
      simp [va_up, e]
    · rw [tab_no hl, tab_no hl]
theorem tab_cat {n n' : Nat} {f : Nat → Nat × va_E} {l : va_W} (h : n + l.length = n') : tab n f ++ l = tab n' (fun k => if k < n then f k else l.getD (k - n) (0, .inr (0, []))) := by
  subst h
  apply List.ext_getElem?
  intro j
  by_cases hj : j < n
  · rw [List.getElem?_append_left (by rw [tab_len]; exact hj), tab_get hj, tab_get (by omega), if_pos hj]
  · rw [List.getElem?_append_right (by rw [tab_len]; omega), tab_len]
    by_cases h2 : j < n + l.length
    · rw [tab_get h2, if_neg hj, List.getD_eq_getElem?_getD, List.getElem?_eq_getElem (by omega)]
      rfl
    · rw [tab_no h2, List.getElem?_eq_none (by omega)]
theorem tab_app {n n' : Nat} {f : Nat → Nat × va_E} {x : Nat × va_E} (h : n + 1 = n') : tab n f ++ [x] = tab n' (va_up f n x) := by
  rw [tab_cat (l := [x]) h]
  unfold tab
  apply List.map_congr_left
  intro k hk
  have hk : k < n' := List.mem_range.mp hk
  by_cases e : k = n
  · subst e
    simp [va_up]
  · have : k < n := by omega
    simp [va_up, e, this]
theorem tab_open {n n' : Nat} {f : Nat → Nat × va_E} (h : n + 1 = n') : tab n' f = tab n f ++ [f n] := by
  subst h
  unfold tab
  rw [List.range_succ, List.map_append]
  rfl
theorem tab_ext {n : Nat} {f g : Nat → Nat × va_E} (h : ∀ k, k < n → f k = g k) : tab n f = tab n g := List.map_congr_left (fun k hk => h k (List.mem_range.mp hk))
theorem all_s {P : Nat → Prop} {n n' : Nat} (hn : n + 1 = n') (h : ∀ k, k < n → P k) (h1 : P n) : ∀ k, k < n' → P k := by
  intro k hk
  by_cases e : k = n
  · rw [e]
    exact h1
  · exact h k (by omega)
theorem all_0 {P : Nat → Prop} : ∀ k, k < 0 → P k := fun k hk => absurd hk (Nat.not_lt_zero k)
section gT
variable {G : gG} {M : mT} {cc : ByteArray} {rm : Room} {QF : Array Value → State → List Frame → State → Prop} {pc : Nat} {L : List (Option Value)} {st : List Value} {pre : va_W} {f : Nat → Nat × va_E} {m m' cells slots : Nat} {a idx ci k N : Nat} {C : String} {T : u_T} {ty : Nat → FieldType} {fs fs' : List Value}
theorem tNew (hd : decode cc pc = .ok (.new idx, 3)) (hc : vwCl[ci]? = some (C, T, N)) (hin : ∀ w ∈ u_ws C T N, w ∈ gWds) (hcl : Cond.classLink (mO M) idx C ∈ gWds) (hins : Cond.instantiable C N ∈ gWds) (hini : Cond.initialized C ∈ gWds) (ht : fTy C T N ty) (hfs : ∀ j, j < N → defaultValue (ty j) = vp_V fs j) (hcs : cells + 1 ≤ rm.cells) (hsl : slots + N ≤ rm.slots) (hm : m + 1 = m') (kk : ∀ q : Nat, RW G M cc rm QF (pc + 3) L (.ref q :: st) (pre ++ tab m' (va_up f m (q, .inr (ci, fs)))) (cells + 1) (slots + N)) : RW G M cc rm QF pc L st (pre ++ tab m f) cells slots :=
  rNew hd hc hin hcl hins hini ht hfs hcs hsl (fun q => by rw [List.append_assoc, tab_app hm]; exact kk q)
theorem tNewI {n : Int32} (hd : decode cc pc = .ok (.newarray .int, 2)) (hn : ¬ n < 0) (hN : n.toNatClampNeg = N) (hb : N * 4 ≤ 536870912) (hcs : cells + 1 ≤ rm.cells) (hsl : slots + N ≤ rm.slots) (hm : m + 1 = m') (kk : ∀ q : Nat, RW G M cc rm QF (pc + 2) L (.ref q :: st) (pre ++ tab m' (va_up f m (q, .inl (gcy G 0, N, .inl (fun _ => 0))))) (cells + 1) (slots + N)) : RW G M cc rm QF pc L (.int n :: st) (pre ++ tab m f) cells slots :=
  rNewI hd wd_aint hn hN hb hcs hsl (fun q => by rw [List.append_assoc, tab_app hm]; exact kk q)
theorem tNewZ {n : Int32} (hd : decode cc pc = .ok (.newarray .boolean, 2)) (hn : ¬ n < 0) (hN : n.toNatClampNeg = N) (hb : N ≤ 536870912) (hcs : cells + 1 ≤ rm.cells) (hsl : slots + N ≤ rm.slots) (hm : m + 1 = m') (kk : ∀ q : Nat, RW G M cc rm QF (pc + 2) L (.ref q :: st) (pre ++ tab m' (va_up f m (q, .inl (gcy G 1, N, .inl (fun _ => 0))))) (cells + 1) (slots + N)) : RW G M cc rm QF pc L (.int n :: st) (pre ++ tab m f) cells slots :=
  rNewZ hd wd_aboolean hn hN (by omega) hcs hsl (fun q => by rw [List.append_assoc, tab_app hm]; exact kk q)
theorem tNewP {n : Int32} (hd : decode cc pc = .ok (.anewarray idx, 3)) (hcl : Cond.classLink (mO M) idx RX2 ∈ gWds) (hn : ¬ n < 0) (hN : n.toNatClampNeg = N) (hb : N * 4 ≤ 536870912) (hcs : cells + 1 ≤ rm.cells) (hsl : slots + N ≤ rm.slots) (hm : m + 1 = m') (kk : ∀ q : Nat, RW G M cc rm QF (pc + 3) L (.ref q :: st) (pre ++ tab m' (va_up f m (q, .inl (gcy G 2, N, .inr (.inr (.inr (.inr (fun _ => none)))))))) (cells + 1) (slots + N)) : RW G M cc rm QF pc L (.int n :: st) (pre ++ tab m f) cells slots :=
  rNewP hd hcl hn hN hb hcs hsl (fun q => by rw [List.append_assoc, tab_app hm]; exact kk q)
theorem t_at {q : Nat} (hq : q < m) : (pre ++ tab m f)[pre.length + q]? = some (f q) := wget.trans (tab_get hq)
theorem t_set {q : Nat} {x : Nat × va_E} (hq : q < m) : (pre ++ tab m f).set (pre.length + q) x = pre ++ tab m (va_up f q x) := by rw [wset, tab_set hq]
theorem tPutF {v : Value} (hd : decode cc pc = .ok (.putfield idx, 3)) (hf : fLk (mO M) idx ci k C T N) (hg : Cond.fieldLink (mO M) idx (T k).1 (T k).2.1 (T k).2.2.1 ∈ gWds) (ht : fTy C T N ty) (hfin : (T k).2.2.2 = true) (hnm : M.2.1 = "<init>") (hdc : (T k).1 = mO M) (q : Nat) (hq : q < m) (he : f q = (a, .inr (ci, fs))) (hn : narrow (ty k) v = v) (hfit : fits (ty k) v = true) (hl : k < fs.length) (hs : fs.set k v = fs') (kk : RW G M cc rm QF (pc + 3) L st (pre ++ tab m (va_up f q (a, .inr (ci, fs')))) cells slots) : RW G M cc rm QF pc L (v :: .ref a :: st) (pre ++ tab m f) cells slots :=
  rPutF hd hf hg ht hfin hnm hdc (pre.length + q) ((t_at hq).trans (congrArg some he)) hn hfit hl (by rw [t_set hq, hs]; exact kk)
theorem tPut {v : Value} (hd : decode cc pc = .ok (.putfield idx, 3)) (hf : fLk (mO M) idx ci k C T N) (ht : fTy C T N ty) (hfin : (T k).2.2.2 = false) (q : Nat) (hq : q < m) (he : f q = (a, .inr (ci, fs))) (hn : narrow (ty k) v = v) (hfit : fits (ty k) v = true) (hl : k < fs.length) (hs : fs.set k v = fs') (kk : RW G M cc rm QF (pc + 3) L st (pre ++ tab m (va_up f q (a, .inr (ci, fs')))) cells slots) : RW G M cc rm QF pc L (v :: .ref a :: st) (pre ++ tab m f) cells slots :=
  rPut hd hf ht hfin (pre.length + q) ((t_at hq).trans (congrArg some he)) hn hfit hl (by rw [t_set hq, hs]; exact kk)
theorem tGet {v : Value} (hd : decode cc pc = .ok (.getfield idx, 3)) (hf : fLk (mO M) idx ci k C T N) (q : Nat) (hq : q < m) (he : f q = (a, .inr (ci, fs))) (hv : fs[k]? = some v) (kk : RW G M cc rm QF (pc + 3) L (v :: st) (pre ++ tab m f) cells slots) : RW G M cc rm QF pc L (.ref a :: st) (pre ++ tab m f) cells slots :=
  rGet hd hf (pre.length + q) ((t_at hq).trans (congrArg some he)) hv kk
theorem tIast {n : Nat} {g : Nat → Int32} {i : Nat} {x : Int32} (hd : decode cc pc = .ok (.iastore, 1)) (q : Nat) (hq : q < m) (he : f q = (a, .inl (gcy G 0, n, .inl g))) (hi : i < n) (hn : n < 2 ^ 31) (kk : RW G M cc rm QF (pc + 1) L st (pre ++ tab m (va_up f q (a, .inl (gcy G 0, n, .inl (upd g i x))))) cells slots) : RW G M cc rm QF pc L (.int x :: .int (nI i) :: .ref a :: st) (pre ++ tab m f) cells slots :=
  rIast hd (pre.length + q) ((t_at hq).trans (congrArg some he)) (vp_in_nI hi hn) (by rw [t_set hq, nI_clamp (by omega)]; exact kk)
theorem tAast {n b i : Nat} {g : Nat → Option Nat} {T : u_T} {N : Nat} (hd : decode cc pc = .ok (.aastore, 1)) (q qk : Nat) (hq : q < m) (hqk : qk < m) (he : f q = (a, .inl (gcy G 2, n, .inr (.inr (.inr (.inr g)))))) (hv : f qk = (b, .inr (ci, fs))) (hc : vwCl[ci]? = some (RX2, T, N)) (hi : i < n) (hn : n < 2 ^ 31) (kk : RW G M cc rm QF (pc + 1) L st (pre ++ tab m (va_up f q (a, .inl (gcy G 2, n, .inr (.inr (.inr (.inr (va_up g i (some b)))))))) ) cells slots) : RW G M cc rm QF pc L (.ref b :: .int (nI i) :: .ref a :: st) (pre ++ tab m f) cells slots :=
  rAast hd (pre.length + q) (pre.length + qk) ((t_at hq).trans (congrArg some he)) ((t_at hqk).trans (congrArg some hv)) hc (vp_in_nI hi hn) (by rw [t_set hq, nI_clamp (by omega)]; exact kk)
/-- ahead of a call of a constructor: the new object stands alone behind -/
theorem tCut {e : Nat × va_E} (hm : m + 1 = m') (he : f m = e) (kk : RW G M cc rm QF pc L st ((pre ++ tab m f) ++ [e]) cells slots) : RW G M cc rm QF pc L st (pre ++ tab m' f) cells slots := by
  rw [tab_open hm, ← List.append_assoc, he]
  exact kk
/-- behind it -/
theorem tJoin {l : va_W} {g : Nat → Nat × va_E} (hm : m + l.length = m') (hg : ∀ k, k < m' → (if k < m then f k else l.getD (k - m) (0, .inr (0, []))) = g k) (kk : RW G M cc rm QF pc L st (pre ++ tab m' g) cells slots) : RW G M cc rm QF pc L st ((pre ++ tab m f) ++ l) cells slots := by
  rw [List.append_assoc, tab_cat hm, tab_ext hg]
  exact kk
theorem tName {g : Nat → Nat × va_E} (kk : ∀ h : Nat → Nat × va_E, h = g → RW G M cc rm QF pc L st (pre ++ tab m h) cells slots) : RW G M cc rm QF pc L st (pre ++ tab m g) cells slots := kk g rfl
end gT
theorem hg_X7_7 : Cond.fieldLink RX7 7 (TX7 4).1 (TX7 4).2.1 (TX7 4).2.2.1 ∈ gWds := gMem (i := 640) (by decide +kernel) (by rfl)
theorem hg_X7_13 : Cond.fieldLink RX7 13 (TX7 5).1 (TX7 5).2.1 (TX7 5).2.2.1 ∈ gWds := gMem (i := 641) (by decide +kernel) (by rfl)
theorem hg_X7_16 : Cond.fieldLink RX7 16 (TX7 6).1 (TX7 6).2.1 (TX7 6).2.2.1 ∈ gWds := gMem (i := 642) (by decide +kernel) (by rfl)
theorem hg_X7_19 : Cond.fieldLink RX7 19 (TX7 7).1 (TX7 7).2.1 (TX7 7).2.2.1 ∈ gWds := gMem (i := 643) (by decide +kernel) (by rfl)
theorem hg_X7_22 : Cond.fieldLink RX7 22 (TX7 8).1 (TX7 8).2.1 (TX7 8).2.2.1 ∈ gWds := gMem (i := 644) (by decide +kernel) (by rfl)
theorem hg_X7_25 : Cond.fieldLink RX7 25 (TX7 9).1 (TX7 9).2.1 (TX7 9).2.2.1 ∈ gWds := gMem (i := 645) (by decide +kernel) (by rfl)
theorem hg_X7_28 : Cond.fieldLink RX7 28 (TX7 10).1 (TX7 10).2.1 (TX7 10).2.2.1 ∈ gWds := gMem (i := 646) (by decide +kernel) (by rfl)
theorem hg_X7_31 : Cond.fieldLink RX7 31 (TX7 11).1 (TX7 11).2.1 (TX7 11).2.2.1 ∈ gWds := gMem (i := 647) (by decide +kernel) (by rfl)
theorem hg_X7_35 : Cond.fieldLink RX7 35 (TX7 12).1 (TX7 12).2.1 (TX7 12).2.2.1 ∈ gWds := gMem (i := 648) (by decide +kernel) (by rfl)
theorem hg_X7_38 : Cond.fieldLink RX7 38 (TX7 13).1 (TX7 13).2.1 (TX7 13).2.2.1 ∈ gWds := gMem (i := 649) (by decide +kernel) (by rfl)
theorem hg_X7_41 : Cond.fieldLink RX7 41 (TX7 14).1 (TX7 14).2.1 (TX7 14).2.2.1 ∈ gWds := gMem (i := 650) (by decide +kernel) (by rfl)
theorem hg_X7_44 : Cond.fieldLink RX7 44 (TX7 15).1 (TX7 15).2.1 (TX7 15).2.2.1 ∈ gWds := gMem (i := 651) (by decide +kernel) (by rfl)
theorem hg_X7_47 : Cond.fieldLink RX7 47 (TX7 16).1 (TX7 16).2.1 (TX7 16).2.2.1 ∈ gWds := gMem (i := 652) (by decide +kernel) (by rfl)
theorem hg_X7_50 : Cond.fieldLink RX7 50 (TX7 17).1 (TX7 17).2.1 (TX7 17).2.2.1 ∈ gWds := gMem (i := 653) (by decide +kernel) (by rfl)
theorem hg_X7_53 : Cond.fieldLink RX7 53 (TX7 18).1 (TX7 18).2.1 (TX7 18).2.2.1 ∈ gWds := gMem (i := 654) (by decide +kernel) (by rfl)
def cM7 (G : gG) (ad : Nat → Nat) (k : Nat) : va_E := (.inr (7, [.int 0, .int 0, .int 0, .int 0, .ref (ad 1), .ref (ad 2), .ref (ad 3), .ref (ad 4), .ref (ad 5), .ref (ad 6), .ref (ad 7), .ref (ad 8), .ref (ad 9), .ref (ad 10), .ref (ad 11), .ref (ad 12), .ref (ad 13), .ref (ad 14), .ref (ad 15)]) :: .inl (gcy G 0, 100, .inl (fun _ => 0)) :: .inl (gcy G 0, 9, .inl (upd (upd (upd (upd (upd (upd (upd (upd (upd (fun _ => 0) 0 (nI 9)) 1 (nI 9)) 2 (nI 9)) 3 (nI 9)) 4 (nI 9)) 5 (nI 9)) 6 (nI 9)) 7 (nI 9)) 8 (nI 9))) :: .inl (gcy G 0, 4, .inl (upd (upd (upd (upd (fun _ => 0) 0 (nI 10)) 1 (nI 10)) 2 (nI 10)) 3 (nI 10))) :: .inl (gcy G 0, 4, .inl (upd (upd (upd (upd (fun _ => 0) 0 (nI 1)) 1 (nI 1)) 2 (nI 1)) 3 (nI 1))) :: .inl (gcy G 0, 4, .inl (upd (upd (upd (upd (fun _ => 0) 0 (nI 20)) 1 (nI 20)) 2 (nI 20)) 3 (nI 20))) :: .inl (gcy G 0, 4, .inl (fun _ => 0)) :: .inl (gcy G 0, 12, .inl (upd (upd (upd (upd (upd (upd (upd (upd (upd (upd (upd (upd (fun _ => 0) 0 (-1)) 1 (-1)) 2 (-1)) 3 (-1)) 4 (-1)) 5 (-1)) 6 (-1)) 7 (-1)) 8 (-1)) 9 (-1)) 10 (-1)) 11 (-1))) :: .inl (gcy G 1, 4, .inl (fun _ => 0)) :: .inl (gcy G 0, 4, .inl (fun _ => 0)) :: .inl (gcy G 0, 24, .inl (fun _ => 0)) :: .inl (gcy G 0, 4, .inl (fun _ => 0)) :: .inl (gcy G 0, 20, .inl (fun _ => 0)) :: .inl (gcy G 0, 2, .inl (fun _ => 0)) :: .inl (gcy G 0, 2, .inl (fun _ => 0)) :: .inl (gcy G 0, 10, .inl (fun _ => 0)) :: [] : List va_E).getD k (.inr (0, []))
set_option maxRecDepth 100000 in
set_option maxHeartbeats 40000000 in
theorem i_X7 {G : gG} {pre : va_W} {a : Nat} : CT G mX7_init cX7_init (rmD 2 15 400) [.ref a] (pre ++ tab 1 (fun _ => (a, .inr (7, [.int 0, .int 0, .int 0, .int 0, .null, .null, .null, .null, .null, .null, .null, .null, .null, .null, .null, .null, .null, .null, .null])))) (fun v w => v = none ∧ ∃ (ad : Nat → Nat) (f : Nat → Nat × va_E), ad 0 = a ∧ w = pre ++ tab 16 f ∧ ∀ k, k < 16 → f k = (ad k, cM7 G ad k)) (fun _ _ => False) := by
  refine CT.of rfl (by decide +kernel) (by intro v hv; simp only [List.mem_cons, List.not_mem_nil, or_false] at hv; rcases hv with rfl <;> rfl) (Nat.le_of_ble_eq_true rfl) ?_
  show RW G _ _ _ _ 0 [some (.ref a), none] [] _ 0 0
  refine rAload_n dX7_init_0 rfl ?_
  refine rObjInit dX7_init_1 lo_X7_1 wd_oi wd_oc (Nat.le_of_ble_eq_true rfl) (Nat.le_of_ble_eq_true rfl) ?_
  refine rAload_n dX7_init_4 rfl ?_
  refine rBipush (v := nI 100) dX7_init_5 (by decide) ?_
  refine tNewI (N := 100) dX7_init_7 (by decide) (by decide) (by decide) (Nat.le_of_ble_eq_true rfl) (Nat.le_of_ble_eq_true rfl) rfl (fun q0 => ?_)
  refine tPutF (fs := (.int 0 :: .int 0 :: .int 0 :: .int 0 :: .null :: .null :: .null :: .null :: .null :: .null :: .null :: .null :: .null :: .null :: .null :: .null :: .null :: .null :: .null :: [] : List Value)) (fs' := (.int 0 :: .int 0 :: .int 0 :: .int 0 :: .ref q0 :: .null :: .null :: .null :: .null :: .null :: .null :: .null :: .null :: .null :: .null :: .null :: .null :: .null :: .null :: [] : List Value)) dX7_init_9 fl_X7_7 hg_X7_7 ft_X7 rfl rfl rfl 0 (Nat.le_of_ble_eq_true rfl) rfl rfl rfl (Nat.le_of_ble_eq_true rfl) rfl ?_
  refine rAload_n dX7_init_12 rfl ?_
  refine rBipush (v := nI 9) dX7_init_13 (by decide) ?_
  refine tNewI (N := 9) dX7_init_15 (by decide) (by decide) (by decide) (Nat.le_of_ble_eq_true rfl) (Nat.le_of_ble_eq_true rfl) rfl (fun q1 => ?_)
  refine tPutF (fs := (.int 0 :: .int 0 :: .int 0 :: .int 0 :: .ref q0 :: .null :: .null :: .null :: .null :: .null :: .null :: .null :: .null :: .null :: .null :: .null :: .null :: .null :: .null :: [] : List Value)) (fs' := (.int 0 :: .int 0 :: .int 0 :: .int 0 :: .ref q0 :: .ref q1 :: .null :: .null :: .null :: .null :: .null :: .null :: .null :: .null :: .null :: .null :: .null :: .null :: .null :: [] : List Value)) dX7_init_17 fl_X7_13 hg_X7_13 ft_X7 rfl rfl rfl 0 (Nat.le_of_ble_eq_true rfl) rfl rfl rfl (Nat.le_of_ble_eq_true rfl) rfl ?_
  refine rAload_n dX7_init_20 rfl ?_
  refine rIconst (v := nI 4) dX7_init_21 (by decide) ?_
  refine tNewI (N := 4) dX7_init_22 (by decide) (by decide) (by decide) (Nat.le_of_ble_eq_true rfl) (Nat.le_of_ble_eq_true rfl) rfl (fun q2 => ?_)
  refine tPutF (fs := (.int 0 :: .int 0 :: .int 0 :: .int 0 :: .ref q0 :: .ref q1 :: .null :: .null :: .null :: .null :: .null :: .null :: .null :: .null :: .null :: .null :: .null :: .null :: .null :: [] : List Value)) (fs' := (.int 0 :: .int 0 :: .int 0 :: .int 0 :: .ref q0 :: .ref q1 :: .ref q2 :: .null :: .null :: .null :: .null :: .null :: .null :: .null :: .null :: .null :: .null :: .null :: .null :: [] : List Value)) dX7_init_24 fl_X7_16 hg_X7_16 ft_X7 rfl rfl rfl 0 (Nat.le_of_ble_eq_true rfl) rfl rfl rfl (Nat.le_of_ble_eq_true rfl) rfl ?_
  refine rAload_n dX7_init_27 rfl ?_
  refine rIconst (v := nI 4) dX7_init_28 (by decide) ?_
  refine tNewI (N := 4) dX7_init_29 (by decide) (by decide) (by decide) (Nat.le_of_ble_eq_true rfl) (Nat.le_of_ble_eq_true rfl) rfl (fun q3 => ?_)
  refine tPutF (fs := (.int 0 :: .int 0 :: .int 0 :: .int 0 :: .ref q0 :: .ref q1 :: .ref q2 :: .null :: .null :: .null :: .null :: .null :: .null :: .null :: .null :: .null :: .null :: .null :: .null :: [] : List Value)) (fs' := (.int 0 :: .int 0 :: .int 0 :: .int 0 :: .ref q0 :: .ref q1 :: .ref q2 :: .ref q3 :: .null :: .null :: .null :: .null :: .null :: .null :: .null :: .null :: .null :: .null :: .null :: [] : List Value)) dX7_init_31 fl_X7_19 hg_X7_19 ft_X7 rfl rfl rfl 0 (Nat.le_of_ble_eq_true rfl) rfl rfl rfl (Nat.le_of_ble_eq_true rfl) rfl ?_
  refine rAload_n dX7_init_34 rfl ?_
  refine rIconst (v := nI 4) dX7_init_35 (by decide) ?_
  refine tNewI (N := 4) dX7_init_36 (by decide) (by decide) (by decide) (Nat.le_of_ble_eq_true rfl) (Nat.le_of_ble_eq_true rfl) rfl (fun q4 => ?_)
  refine tPutF (fs := (.int 0 :: .int 0 :: .int 0 :: .int 0 :: .ref q0 :: .ref q1 :: .ref q2 :: .ref q3 :: .null :: .null :: .null :: .null :: .null :: .null :: .null :: .null :: .null :: .null :: .null :: [] : List Value)) (fs' := (.int 0 :: .int 0 :: .int 0 :: .int 0 :: .ref q0 :: .ref q1 :: .ref q2 :: .ref q3 :: .ref q4 :: .null :: .null :: .null :: .null :: .null :: .null :: .null :: .null :: .null :: .null :: [] : List Value)) dX7_init_38 fl_X7_22 hg_X7_22 ft_X7 rfl rfl rfl 0 (Nat.le_of_ble_eq_true rfl) rfl rfl rfl (Nat.le_of_ble_eq_true rfl) rfl ?_
  refine rAload_n dX7_init_41 rfl ?_
  refine rIconst (v := nI 4) dX7_init_42 (by decide) ?_
  refine tNewI (N := 4) dX7_init_43 (by decide) (by decide) (by decide) (Nat.le_of_ble_eq_true rfl) (Nat.le_of_ble_eq_true rfl) rfl (fun q5 => ?_)
  refine tPutF (fs := (.int 0 :: .int 0 :: .int 0 :: .int 0 :: .ref q0 :: .ref q1 :: .ref q2 :: .ref q3 :: .ref q4 :: .null :: .null :: .null :: .null :: .null :: .null :: .null :: .null :: .null :: .null :: [] : List Value)) (fs' := (.int 0 :: .int 0 :: .int 0 :: .int 0 :: .ref q0 :: .ref q1 :: .ref q2 :: .ref q3 :: .ref q4 :: .ref q5 :: .null :: .null :: .null :: .null :: .null :: .null :: .null :: .null :: .null :: [] : List Value)) dX7_init_45 fl_X7_25 hg_X7_25 ft_X7 rfl rfl rfl 0 (Nat.le_of_ble_eq_true rfl) rfl rfl rfl (Nat.le_of_ble_eq_true rfl) rfl ?_
  refine rAload_n dX7_init_48 rfl ?_
  refine rBipush (v := nI 12) dX7_init_49 (by decide) ?_
  refine tNewI (N := 12) dX7_init_51 (by decide) (by decide) (by decide) (Nat.le_of_ble_eq_true rfl) (Nat.le_of_ble_eq_true rfl) rfl (fun q6 => ?_)
  refine tPutF (fs := (.int 0 :: .int 0 :: .int 0 :: .int 0 :: .ref q0 :: .ref q1 :: .ref q2 :: .ref q3 :: .ref q4 :: .ref q5 :: .null :: .null :: .null :: .null :: .null :: .null :: .null :: .null :: .null :: [] : List Value)) (fs' := (.int 0 :: .int 0 :: .int 0 :: .int 0 :: .ref q0 :: .ref q1 :: .ref q2 :: .ref q3 :: .ref q4 :: .ref q5 :: .ref q6 :: .null :: .null :: .null :: .null :: .null :: .null :: .null :: .null :: [] : List Value)) dX7_init_53 fl_X7_28 hg_X7_28 ft_X7 rfl rfl rfl 0 (Nat.le_of_ble_eq_true rfl) rfl rfl rfl (Nat.le_of_ble_eq_true rfl) rfl ?_
  refine rAload_n dX7_init_56 rfl ?_
  refine rIconst (v := nI 4) dX7_init_57 (by decide) ?_
  refine tNewZ (N := 4) dX7_init_58 (by decide) (by decide) (by decide) (Nat.le_of_ble_eq_true rfl) (Nat.le_of_ble_eq_true rfl) rfl (fun q7 => ?_)
  refine tPutF (fs := (.int 0 :: .int 0 :: .int 0 :: .int 0 :: .ref q0 :: .ref q1 :: .ref q2 :: .ref q3 :: .ref q4 :: .ref q5 :: .ref q6 :: .null :: .null :: .null :: .null :: .null :: .null :: .null :: .null :: [] : List Value)) (fs' := (.int 0 :: .int 0 :: .int 0 :: .int 0 :: .ref q0 :: .ref q1 :: .ref q2 :: .ref q3 :: .ref q4 :: .ref q5 :: .ref q6 :: .ref q7 :: .null :: .null :: .null :: .null :: .null :: .null :: .null :: [] : List Value)) dX7_init_60 fl_X7_31 hg_X7_31 ft_X7 rfl rfl rfl 0 (Nat.le_of_ble_eq_true rfl) rfl rfl rfl (Nat.le_of_ble_eq_true rfl) rfl ?_
  refine rAload_n dX7_init_63 rfl ?_
  refine rIconst (v := nI 4) dX7_init_64 (by decide) ?_
  refine tNewI (N := 4) dX7_init_65 (by decide) (by decide) (by decide) (Nat.le_of_ble_eq_true rfl) (Nat.le_of_ble_eq_true rfl) rfl (fun q8 => ?_)
  refine tPutF (fs := (.int 0 :: .int 0 :: .int 0 :: .int 0 :: .ref q0 :: .ref q1 :: .ref q2 :: .ref q3 :: .ref q4 :: .ref q5 :: .ref q6 :: .ref q7 :: .null :: .null :: .null :: .null :: .null :: .null :: .null :: [] : List Value)) (fs' := (.int 0 :: .int 0 :: .int 0 :: .int 0 :: .ref q0 :: .ref q1 :: .ref q2 :: .ref q3 :: .ref q4 :: .ref q5 :: .ref q6 :: .ref q7 :: .ref q8 :: .null :: .null :: .null :: .null :: .null :: .null :: [] : List Value)) dX7_init_67 fl_X7_35 hg_X7_35 ft_X7 rfl rfl rfl 0 (Nat.le_of_ble_eq_true rfl) rfl rfl rfl (Nat.le_of_ble_eq_true rfl) rfl ?_
  refine rAload_n dX7_init_70 rfl ?_
  refine rBipush (v := nI 24) dX7_init_71 (by decide) ?_
  refine tNewI (N := 24) dX7_init_73 (by decide) (by decide) (by decide) (Nat.le_of_ble_eq_true rfl) (Nat.le_of_ble_eq_true rfl) rfl (fun q9 => ?_)
  refine tPutF (fs := (.int 0 :: .int 0 :: .int 0 :: .int 0 :: .ref q0 :: .ref q1 :: .ref q2 :: .ref q3 :: .ref q4 :: .ref q5 :: .ref q6 :: .ref q7 :: .ref q8 :: .null :: .null :: .null :: .null :: .null :: .null :: [] : List Value)) (fs' := (.int 0 :: .int 0 :: .int 0 :: .int 0 :: .ref q0 :: .ref q1 :: .ref q2 :: .ref q3 :: .ref q4 :: .ref q5 :: .ref q6 :: .ref q7 :: .ref q8 :: .ref q9 :: .null :: .null :: .null :: .null :: .null :: [] : List Value)) dX7_init_75 fl_X7_38 hg_X7_38 ft_X7 rfl rfl rfl 0 (Nat.le_of_ble_eq_true rfl) rfl rfl rfl (Nat.le_of_ble_eq_true rfl) rfl ?_
  refine rAload_n dX7_init_78 rfl ?_
  refine rIconst (v := nI 4) dX7_init_79 (by decide) ?_
  refine tNewI (N := 4) dX7_init_80 (by decide) (by decide) (by decide) (Nat.le_of_ble_eq_true rfl) (Nat.le_of_ble_eq_true rfl) rfl (fun q10 => ?_)
  refine tPutF (fs := (.int 0 :: .int 0 :: .int 0 :: .int 0 :: .ref q0 :: .ref q1 :: .ref q2 :: .ref q3 :: .ref q4 :: .ref q5 :: .ref q6 :: .ref q7 :: .ref q8 :: .ref q9 :: .null :: .null :: .null :: .null :: .null :: [] : List Value)) (fs' := (.int 0 :: .int 0 :: .int 0 :: .int 0 :: .ref q0 :: .ref q1 :: .ref q2 :: .ref q3 :: .ref q4 :: .ref q5 :: .ref q6 :: .ref q7 :: .ref q8 :: .ref q9 :: .ref q10 :: .null :: .null :: .null :: .null :: [] : List Value)) dX7_init_82 fl_X7_41 hg_X7_41 ft_X7 rfl rfl rfl 0 (Nat.le_of_ble_eq_true rfl) rfl rfl rfl (Nat.le_of_ble_eq_true rfl) rfl ?_
  refine rAload_n dX7_init_85 rfl ?_
  refine rBipush (v := nI 20) dX7_init_86 (by decide) ?_
  refine tNewI (N := 20) dX7_init_88 (by decide) (by decide) (by decide) (Nat.le_of_ble_eq_true rfl) (Nat.le_of_ble_eq_true rfl) rfl (fun q11 => ?_)
  refine tPutF (fs := (.int 0 :: .int 0 :: .int 0 :: .int 0 :: .ref q0 :: .ref q1 :: .ref q2 :: .ref q3 :: .ref q4 :: .ref q5 :: .ref q6 :: .ref q7 :: .ref q8 :: .ref q9 :: .ref q10 :: .null :: .null :: .null :: .null :: [] : List Value)) (fs' := (.int 0 :: .int 0 :: .int 0 :: .int 0 :: .ref q0 :: .ref q1 :: .ref q2 :: .ref q3 :: .ref q4 :: .ref q5 :: .ref q6 :: .ref q7 :: .ref q8 :: .ref q9 :: .ref q10 :: .ref q11 :: .null :: .null :: .null :: [] : List Value)) dX7_init_90 fl_X7_44 hg_X7_44 ft_X7 rfl rfl rfl 0 (Nat.le_of_ble_eq_true rfl) rfl rfl rfl (Nat.le_of_ble_eq_true rfl) rfl ?_
  refine rAload_n dX7_init_93 rfl ?_
  refine rIconst (v := nI 2) dX7_init_94 (by decide) ?_
  refine tNewI (N := 2) dX7_init_95 (by decide) (by decide) (by decide) (Nat.le_of_ble_eq_true rfl) (Nat.le_of_ble_eq_true rfl) rfl (fun q12 => ?_)
  refine tPutF (fs := (.int 0 :: .int 0 :: .int 0 :: .int 0 :: .ref q0 :: .ref q1 :: .ref q2 :: .ref q3 :: .ref q4 :: .ref q5 :: .ref q6 :: .ref q7 :: .ref q8 :: .ref q9 :: .ref q10 :: .ref q11 :: .null :: .null :: .null :: [] : List Value)) (fs' := (.int 0 :: .int 0 :: .int 0 :: .int 0 :: .ref q0 :: .ref q1 :: .ref q2 :: .ref q3 :: .ref q4 :: .ref q5 :: .ref q6 :: .ref q7 :: .ref q8 :: .ref q9 :: .ref q10 :: .ref q11 :: .ref q12 :: .null :: .null :: [] : List Value)) dX7_init_97 fl_X7_47 hg_X7_47 ft_X7 rfl rfl rfl 0 (Nat.le_of_ble_eq_true rfl) rfl rfl rfl (Nat.le_of_ble_eq_true rfl) rfl ?_
  refine rAload_n dX7_init_100 rfl ?_
  refine rIconst (v := nI 2) dX7_init_101 (by decide) ?_
  refine tNewI (N := 2) dX7_init_102 (by decide) (by decide) (by decide) (Nat.le_of_ble_eq_true rfl) (Nat.le_of_ble_eq_true rfl) rfl (fun q13 => ?_)
  refine tPutF (fs := (.int 0 :: .int 0 :: .int 0 :: .int 0 :: .ref q0 :: .ref q1 :: .ref q2 :: .ref q3 :: .ref q4 :: .ref q5 :: .ref q6 :: .ref q7 :: .ref q8 :: .ref q9 :: .ref q10 :: .ref q11 :: .ref q12 :: .null :: .null :: [] : List Value)) (fs' := (.int 0 :: .int 0 :: .int 0 :: .int 0 :: .ref q0 :: .ref q1 :: .ref q2 :: .ref q3 :: .ref q4 :: .ref q5 :: .ref q6 :: .ref q7 :: .ref q8 :: .ref q9 :: .ref q10 :: .ref q11 :: .ref q12 :: .ref q13 :: .null :: [] : List Value)) dX7_init_104 fl_X7_50 hg_X7_50 ft_X7 rfl rfl rfl 0 (Nat.le_of_ble_eq_true rfl) rfl rfl rfl (Nat.le_of_ble_eq_true rfl) rfl ?_
  refine rAload_n dX7_init_107 rfl ?_
  refine rBipush (v := nI 10) dX7_init_108 (by decide) ?_
  refine tNewI (N := 10) dX7_init_110 (by decide) (by decide) (by decide) (Nat.le_of_ble_eq_true rfl) (Nat.le_of_ble_eq_true rfl) rfl (fun q14 => ?_)
  refine tPutF (fs := (.int 0 :: .int 0 :: .int 0 :: .int 0 :: .ref q0 :: .ref q1 :: .ref q2 :: .ref q3 :: .ref q4 :: .ref q5 :: .ref q6 :: .ref q7 :: .ref q8 :: .ref q9 :: .ref q10 :: .ref q11 :: .ref q12 :: .ref q13 :: .null :: [] : List Value)) (fs' := (.int 0 :: .int 0 :: .int 0 :: .int 0 :: .ref q0 :: .ref q1 :: .ref q2 :: .ref q3 :: .ref q4 :: .ref q5 :: .ref q6 :: .ref q7 :: .ref q8 :: .ref q9 :: .ref q10 :: .ref q11 :: .ref q12 :: .ref q13 :: .ref q14 :: [] : List Value)) dX7_init_112 fl_X7_53 hg_X7_53 ft_X7 rfl rfl rfl 0 (Nat.le_of_ble_eq_true rfl) rfl rfl rfl (Nat.le_of_ble_eq_true rfl) rfl ?_
  refine rIconst (v := nI 0) dX7_init_115 (by decide) ?_
  refine rIstore_n dX7_init_116 (by decide) ?_
  refine rIload_n dX7_init_117 rfl ?_
  refine rBipush (v := nI 9) dX7_init_118 (by decide) ?_
  refine r_icmp_ge (tgt := 137) dX7_init_120 (by decide) (fun c => absurd c (by decide)) (fun c => ?_)
  refine rAload_n dX7_init_123 rfl ?_
  refine tGet (fs := (.int 0 :: .int 0 :: .int 0 :: .int 0 :: .ref q0 :: .ref q1 :: .ref q2 :: .ref q3 :: .ref q4 :: .ref q5 :: .ref q6 :: .ref q7 :: .ref q8 :: .ref q9 :: .ref q10 :: .ref q11 :: .ref q12 :: .ref q13 :: .ref q14 :: [] : List Value)) dX7_init_124 fl_X7_13 0 (Nat.le_of_ble_eq_true rfl) rfl rfl ?_
  refine rIload_n dX7_init_127 rfl ?_
  refine rBipush (v := nI 9) dX7_init_128 (by decide) ?_
  refine tIast (i := 0) (n := 9) (g := (fun _ => 0)) dX7_init_130 2 (Nat.le_of_ble_eq_true rfl) rfl (by decide) (by decide) ?_
  refine rIinc (v := nI 1) dX7_init_131 rfl (by rfl) (by decide) ?_
  refine rGoto (tgt := 117) dX7_init_134 (by decide) ?_
  refine rIload_n dX7_init_117 rfl ?_
  refine rBipush (v := nI 9) dX7_init_118 (by decide) ?_
  refine r_icmp_ge (tgt := 137) dX7_init_120 (by decide) (fun c => absurd c (by decide)) (fun c => ?_)
  refine rAload_n dX7_init_123 rfl ?_
  refine tGet (fs := (.int 0 :: .int 0 :: .int 0 :: .int 0 :: .ref q0 :: .ref q1 :: .ref q2 :: .ref q3 :: .ref q4 :: .ref q5 :: .ref q6 :: .ref q7 :: .ref q8 :: .ref q9 :: .ref q10 :: .ref q11 :: .ref q12 :: .ref q13 :: .ref q14 :: [] : List Value)) dX7_init_124 fl_X7_13 0 (Nat.le_of_ble_eq_true rfl) rfl rfl ?_
  refine rIload_n dX7_init_127 rfl ?_
  refine rBipush (v := nI 9) dX7_init_128 (by decide) ?_
  refine tIast (i := 1) (n := 9) (g := (upd (fun _ => 0) 0 (nI 9))) dX7_init_130 2 (Nat.le_of_ble_eq_true rfl) rfl (by decide) (by decide) ?_
  refine rIinc (v := nI 2) dX7_init_131 rfl (by rfl) (by decide) ?_
  refine rGoto (tgt := 117) dX7_init_134 (by decide) ?_
  refine rIload_n dX7_init_117 rfl ?_
  refine rBipush (v := nI 9) dX7_init_118 (by decide) ?_
  refine r_icmp_ge (tgt := 137) dX7_init_120 (by decide) (fun c => absurd c (by decide)) (fun c => ?_)
  refine rAload_n dX7_init_123 rfl ?_
  refine tGet (fs := (.int 0 :: .int 0 :: .int 0 :: .int 0 :: .ref q0 :: .ref q1 :: .ref q2 :: .ref q3 :: .ref q4 :: .ref q5 :: .ref q6 :: .ref q7 :: .ref q8 :: .ref q9 :: .ref q10 :: .ref q11 :: .ref q12 :: .ref q13 :: .ref q14 :: [] : List Value)) dX7_init_124 fl_X7_13 0 (Nat.le_of_ble_eq_true rfl) rfl rfl ?_
  refine rIload_n dX7_init_127 rfl ?_
  refine rBipush (v := nI 9) dX7_init_128 (by decide) ?_
  refine tIast (i := 2) (n := 9) (g := (upd (upd (fun _ => 0) 0 (nI 9)) 1 (nI 9))) dX7_init_130 2 (Nat.le_of_ble_eq_true rfl) rfl (by decide) (by decide) ?_
  refine rIinc (v := nI 3) dX7_init_131 rfl (by rfl) (by decide) ?_
  refine rGoto (tgt := 117) dX7_init_134 (by decide) ?_
  refine rIload_n dX7_init_117 rfl ?_
  refine rBipush (v := nI 9) dX7_init_118 (by decide) ?_
  refine r_icmp_ge (tgt := 137) dX7_init_120 (by decide) (fun c => absurd c (by decide)) (fun c => ?_)
  refine rAload_n dX7_init_123 rfl ?_
  refine tGet (fs := (.int 0 :: .int 0 :: .int 0 :: .int 0 :: .ref q0 :: .ref q1 :: .ref q2 :: .ref q3 :: .ref q4 :: .ref q5 :: .ref q6 :: .ref q7 :: .ref q8 :: .ref q9 :: .ref q10 :: .ref q11 :: .ref q12 :: .ref q13 :: .ref q14 :: [] : List Value)) dX7_init_124 fl_X7_13 0 (Nat.le_of_ble_eq_true rfl) rfl rfl ?_
  refine rIload_n dX7_init_127 rfl ?_
  refine rBipush (v := nI 9) dX7_init_128 (by decide) ?_
  refine tIast (i := 3) (n := 9) (g := (upd (upd (upd (fun _ => 0) 0 (nI 9)) 1 (nI 9)) 2 (nI 9))) dX7_init_130 2 (Nat.le_of_ble_eq_true rfl) rfl (by decide) (by decide) ?_
  refine rIinc (v := nI 4) dX7_init_131 rfl (by rfl) (by decide) ?_
  refine rGoto (tgt := 117) dX7_init_134 (by decide) ?_
  refine rIload_n dX7_init_117 rfl ?_
  refine rBipush (v := nI 9) dX7_init_118 (by decide) ?_
  refine r_icmp_ge (tgt := 137) dX7_init_120 (by decide) (fun c => absurd c (by decide)) (fun c => ?_)
  refine rAload_n dX7_init_123 rfl ?_
  refine tGet (fs := (.int 0 :: .int 0 :: .int 0 :: .int 0 :: .ref q0 :: .ref q1 :: .ref q2 :: .ref q3 :: .ref q4 :: .ref q5 :: .ref q6 :: .ref q7 :: .ref q8 :: .ref q9 :: .ref q10 :: .ref q11 :: .ref q12 :: .ref q13 :: .ref q14 :: [] : List Value)) dX7_init_124 fl_X7_13 0 (Nat.le_of_ble_eq_true rfl) rfl rfl ?_
  refine rIload_n dX7_init_127 rfl ?_
  refine rBipush (v := nI 9) dX7_init_128 (by decide) ?_
  refine tIast (i := 4) (n := 9) (g := (upd (upd (upd (upd (fun _ => 0) 0 (nI 9)) 1 (nI 9)) 2 (nI 9)) 3 (nI 9))) dX7_init_130 2 (Nat.le_of_ble_eq_true rfl) rfl (by decide) (by decide) ?_
  refine rIinc (v := nI 5) dX7_init_131 rfl (by rfl) (by decide) ?_
  refine rGoto (tgt := 117) dX7_init_134 (by decide) ?_
  refine rIload_n dX7_init_117 rfl ?_
  refine rBipush (v := nI 9) dX7_init_118 (by decide) ?_
  refine r_icmp_ge (tgt := 137) dX7_init_120 (by decide) (fun c => absurd c (by decide)) (fun c => ?_)
  refine rAload_n dX7_init_123 rfl ?_
  refine tGet (fs := (.int 0 :: .int 0 :: .int 0 :: .int 0 :: .ref q0 :: .ref q1 :: .ref q2 :: .ref q3 :: .ref q4 :: .ref q5 :: .ref q6 :: .ref q7 :: .ref q8 :: .ref q9 :: .ref q10 :: .ref q11 :: .ref q12 :: .ref q13 :: .ref q14 :: [] : List Value)) dX7_init_124 fl_X7_13 0 (Nat.le_of_ble_eq_true rfl) rfl rfl ?_
  refine rIload_n dX7_init_127 rfl ?_
  refine rBipush (v := nI 9) dX7_init_128 (by decide) ?_
  refine tIast (i := 5) (n := 9) (g := (upd (upd (upd (upd (upd (fun _ => 0) 0 (nI 9)) 1 (nI 9)) 2 (nI 9)) 3 (nI 9)) 4 (nI 9))) dX7_init_130 2 (Nat.le_of_ble_eq_true rfl) rfl (by decide) (by decide) ?_
  refine rIinc (v := nI 6) dX7_init_131 rfl (by rfl) (by decide) ?_
  refine rGoto (tgt := 117) dX7_init_134 (by decide) ?_
  refine rIload_n dX7_init_117 rfl ?_
  refine rBipush (v := nI 9) dX7_init_118 (by decide) ?_
  refine r_icmp_ge (tgt := 137) dX7_init_120 (by decide) (fun c => absurd c (by decide)) (fun c => ?_)
  refine rAload_n dX7_init_123 rfl ?_
  refine tGet (fs := (.int 0 :: .int 0 :: .int 0 :: .int 0 :: .ref q0 :: .ref q1 :: .ref q2 :: .ref q3 :: .ref q4 :: .ref q5 :: .ref q6 :: .ref q7 :: .ref q8 :: .ref q9 :: .ref q10 :: .ref q11 :: .ref q12 :: .ref q13 :: .ref q14 :: [] : List Value)) dX7_init_124 fl_X7_13 0 (Nat.le_of_ble_eq_true rfl) rfl rfl ?_
  refine rIload_n dX7_init_127 rfl ?_
  refine rBipush (v := nI 9) dX7_init_128 (by decide) ?_
  refine tIast (i := 6) (n := 9) (g := (upd (upd (upd (upd (upd (upd (fun _ => 0) 0 (nI 9)) 1 (nI 9)) 2 (nI 9)) 3 (nI 9)) 4 (nI 9)) 5 (nI 9))) dX7_init_130 2 (Nat.le_of_ble_eq_true rfl) rfl (by decide) (by decide) ?_
  refine rIinc (v := nI 7) dX7_init_131 rfl (by rfl) (by decide) ?_
  refine rGoto (tgt := 117) dX7_init_134 (by decide) ?_
  refine rIload_n dX7_init_117 rfl ?_
  refine rBipush (v := nI 9) dX7_init_118 (by decide) ?_
  refine r_icmp_ge (tgt := 137) dX7_init_120 (by decide) (fun c => absurd c (by decide)) (fun c => ?_)
  refine rAload_n dX7_init_123 rfl ?_
  refine tGet (fs := (.int 0 :: .int 0 :: .int 0 :: .int 0 :: .ref q0 :: .ref q1 :: .ref q2 :: .ref q3 :: .ref q4 :: .ref q5 :: .ref q6 :: .ref q7 :: .ref q8 :: .ref q9 :: .ref q10 :: .ref q11 :: .ref q12 :: .ref q13 :: .ref q14 :: [] : List Value)) dX7_init_124 fl_X7_13 0 (Nat.le_of_ble_eq_true rfl) rfl rfl ?_
  refine rIload_n dX7_init_127 rfl ?_
  refine rBipush (v := nI 9) dX7_init_128 (by decide) ?_
  refine tIast (i := 7) (n := 9) (g := (upd (upd (upd (upd (upd (upd (upd (fun _ => 0) 0 (nI 9)) 1 (nI 9)) 2 (nI 9)) 3 (nI 9)) 4 (nI 9)) 5 (nI 9)) 6 (nI 9))) dX7_init_130 2 (Nat.le_of_ble_eq_true rfl) rfl (by decide) (by decide) ?_
  refine rIinc (v := nI 8) dX7_init_131 rfl (by rfl) (by decide) ?_
  refine rGoto (tgt := 117) dX7_init_134 (by decide) ?_
  refine rIload_n dX7_init_117 rfl ?_
  refine rBipush (v := nI 9) dX7_init_118 (by decide) ?_
  refine r_icmp_ge (tgt := 137) dX7_init_120 (by decide) (fun c => absurd c (by decide)) (fun c => ?_)
  refine rAload_n dX7_init_123 rfl ?_
  refine tGet (fs := (.int 0 :: .int 0 :: .int 0 :: .int 0 :: .ref q0 :: .ref q1 :: .ref q2 :: .ref q3 :: .ref q4 :: .ref q5 :: .ref q6 :: .ref q7 :: .ref q8 :: .ref q9 :: .ref q10 :: .ref q11 :: .ref q12 :: .ref q13 :: .ref q14 :: [] : List Value)) dX7_init_124 fl_X7_13 0 (Nat.le_of_ble_eq_true rfl) rfl rfl ?_
  refine rIload_n dX7_init_127 rfl ?_
  refine rBipush (v := nI 9) dX7_init_128 (by decide) ?_
  refine tIast (i := 8) (n := 9) (g := (upd (upd (upd (upd (upd (upd (upd (upd (fun _ => 0) 0 (nI 9)) 1 (nI 9)) 2 (nI 9)) 3 (nI 9)) 4 (nI 9)) 5 (nI 9)) 6 (nI 9)) 7 (nI 9))) dX7_init_130 2 (Nat.le_of_ble_eq_true rfl) rfl (by decide) (by decide) ?_
  refine rIinc (v := nI 9) dX7_init_131 rfl (by rfl) (by decide) ?_
  refine rGoto (tgt := 117) dX7_init_134 (by decide) ?_
  refine rIload_n dX7_init_117 rfl ?_
  refine rBipush (v := nI 9) dX7_init_118 (by decide) ?_
  refine r_icmp_ge (tgt := 137) dX7_init_120 (by decide) (fun c => ?_) (fun c => absurd (by decide) c)
  refine rIconst (v := nI 0) dX7_init_137 (by decide) ?_
  refine rIstore_n dX7_init_138 (by decide) ?_
  refine rIload_n dX7_init_139 rfl ?_
  refine rIconst (v := nI 4) dX7_init_140 (by decide) ?_
  refine r_icmp_ge (tgt := 173) dX7_init_141 (by decide) (fun c => absurd c (by decide)) (fun c => ?_)
  refine rAload_n dX7_init_144 rfl ?_
  refine tGet (fs := (.int 0 :: .int 0 :: .int 0 :: .int 0 :: .ref q0 :: .ref q1 :: .ref q2 :: .ref q3 :: .ref q4 :: .ref q5 :: .ref q6 :: .ref q7 :: .ref q8 :: .ref q9 :: .ref q10 :: .ref q11 :: .ref q12 :: .ref q13 :: .ref q14 :: [] : List Value)) dX7_init_145 fl_X7_16 0 (Nat.le_of_ble_eq_true rfl) rfl rfl ?_
  refine rIload_n dX7_init_148 rfl ?_
  refine rBipush (v := nI 10) dX7_init_149 (by decide) ?_
  refine tIast (i := 0) (n := 4) (g := (fun _ => 0)) dX7_init_151 3 (Nat.le_of_ble_eq_true rfl) rfl (by decide) (by decide) ?_
  refine rAload_n dX7_init_152 rfl ?_
  refine tGet (fs := (.int 0 :: .int 0 :: .int 0 :: .int 0 :: .ref q0 :: .ref q1 :: .ref q2 :: .ref q3 :: .ref q4 :: .ref q5 :: .ref q6 :: .ref q7 :: .ref q8 :: .ref q9 :: .ref q10 :: .ref q11 :: .ref q12 :: .ref q13 :: .ref q14 :: [] : List Value)) dX7_init_153 fl_X7_19 0 (Nat.le_of_ble_eq_true rfl) rfl rfl ?_
  refine rIload_n dX7_init_156 rfl ?_
  refine rIconst (v := nI 1) dX7_init_157 (by decide) ?_
  refine tIast (i := 0) (n := 4) (g := (fun _ => 0)) dX7_init_158 4 (Nat.le_of_ble_eq_true rfl) rfl (by decide) (by decide) ?_
  refine rAload_n dX7_init_159 rfl ?_
  refine tGet (fs := (.int 0 :: .int 0 :: .int 0 :: .int 0 :: .ref q0 :: .ref q1 :: .ref q2 :: .ref q3 :: .ref q4 :: .ref q5 :: .ref q6 :: .ref q7 :: .ref q8 :: .ref q9 :: .ref q10 :: .ref q11 :: .ref q12 :: .ref q13 :: .ref q14 :: [] : List Value)) dX7_init_160 fl_X7_22 0 (Nat.le_of_ble_eq_true rfl) rfl rfl ?_
  refine rIload_n dX7_init_163 rfl ?_
  refine rBipush (v := nI 20) dX7_init_164 (by decide) ?_
  refine tIast (i := 0) (n := 4) (g := (fun _ => 0)) dX7_init_166 5 (Nat.le_of_ble_eq_true rfl) rfl (by decide) (by decide) ?_
  refine rIinc (v := nI 1) dX7_init_167 rfl (by rfl) (by decide) ?_
  refine rGoto (tgt := 139) dX7_init_170 (by decide) ?_
  refine rIload_n dX7_init_139 rfl ?_
  refine rIconst (v := nI 4) dX7_init_140 (by decide) ?_
  refine r_icmp_ge (tgt := 173) dX7_init_141 (by decide) (fun c => absurd c (by decide)) (fun c => ?_)
  refine rAload_n dX7_init_144 rfl ?_
  refine tGet (fs := (.int 0 :: .int 0 :: .int 0 :: .int 0 :: .ref q0 :: .ref q1 :: .ref q2 :: .ref q3 :: .ref q4 :: .ref q5 :: .ref q6 :: .ref q7 :: .ref q8 :: .ref q9 :: .ref q10 :: .ref q11 :: .ref q12 :: .ref q13 :: .ref q14 :: [] : List Value)) dX7_init_145 fl_X7_16 0 (Nat.le_of_ble_eq_true rfl) rfl rfl ?_
  refine rIload_n dX7_init_148 rfl ?_
  refine rBipush (v := nI 10) dX7_init_149 (by decide) ?_
  refine tIast (i := 1) (n := 4) (g := (upd (fun _ => 0) 0 (nI 10))) dX7_init_151 3 (Nat.le_of_ble_eq_true rfl) rfl (by decide) (by decide) ?_
  refine rAload_n dX7_init_152 rfl ?_
  refine tGet (fs := (.int 0 :: .int 0 :: .int 0 :: .int 0 :: .ref q0 :: .ref q1 :: .ref q2 :: .ref q3 :: .ref q4 :: .ref q5 :: .ref q6 :: .ref q7 :: .ref q8 :: .ref q9 :: .ref q10 :: .ref q11 :: .ref q12 :: .ref q13 :: .ref q14 :: [] : List Value)) dX7_init_153 fl_X7_19 0 (Nat.le_of_ble_eq_true rfl) rfl rfl ?_
  refine rIload_n dX7_init_156 rfl ?_
  refine rIconst (v := nI 1) dX7_init_157 (by decide) ?_
  refine tIast (i := 1) (n := 4) (g := (upd (fun _ => 0) 0 (nI 1))) dX7_init_158 4 (Nat.le_of_ble_eq_true rfl) rfl (by decide) (by decide) ?_
  refine rAload_n dX7_init_159 rfl ?_
  refine tGet (fs := (.int 0 :: .int 0 :: .int 0 :: .int 0 :: .ref q0 :: .ref q1 :: .ref q2 :: .ref q3 :: .ref q4 :: .ref q5 :: .ref q6 :: .ref q7 :: .ref q8 :: .ref q9 :: .ref q10 :: .ref q11 :: .ref q12 :: .ref q13 :: .ref q14 :: [] : List Value)) dX7_init_160 fl_X7_22 0 (Nat.le_of_ble_eq_true rfl) rfl rfl ?_
  refine rIload_n dX7_init_163 rfl ?_
  refine rBipush (v := nI 20) dX7_init_164 (by decide) ?_
  refine tIast (i := 1) (n := 4) (g := (upd (fun _ => 0) 0 (nI 20))) dX7_init_166 5 (Nat.le_of_ble_eq_true rfl) rfl (by decide) (by decide) ?_
  refine rIinc (v := nI 2) dX7_init_167 rfl (by rfl) (by decide) ?_
  refine rGoto (tgt := 139) dX7_init_170 (by decide) ?_
  refine rIload_n dX7_init_139 rfl ?_
  refine rIconst (v := nI 4) dX7_init_140 (by decide) ?_
  refine r_icmp_ge (tgt := 173) dX7_init_141 (by decide) (fun c => absurd c (by decide)) (fun c => ?_)
  refine rAload_n dX7_init_144 rfl ?_
  refine tGet (fs := (.int 0 :: .int 0 :: .int 0 :: .int 0 :: .ref q0 :: .ref q1 :: .ref q2 :: .ref q3 :: .ref q4 :: .ref q5 :: .ref q6 :: .ref q7 :: .ref q8 :: .ref q9 :: .ref q10 :: .ref q11 :: .ref q12 :: .ref q13 :: .ref q14 :: [] : List Value)) dX7_init_145 fl_X7_16 0 (Nat.le_of_ble_eq_true rfl) rfl rfl ?_
  refine rIload_n dX7_init_148 rfl ?_
  refine rBipush (v := nI 10) dX7_init_149 (by decide) ?_
  refine tIast (i := 2) (n := 4) (g := (upd (upd (fun _ => 0) 0 (nI 10)) 1 (nI 10))) dX7_init_151 3 (Nat.le_of_ble_eq_true rfl) rfl (by decide) (by decide) ?_
  refine rAload_n dX7_init_152 rfl ?_
  refine tGet (fs := (.int 0 :: .int 0 :: .int 0 :: .int 0 :: .ref q0 :: .ref q1 :: .ref q2 :: .ref q3 :: .ref q4 :: .ref q5 :: .ref q6 :: .ref q7 :: .ref q8 :: .ref q9 :: .ref q10 :: .ref q11 :: .ref q12 :: .ref q13 :: .ref q14 :: [] : List Value)) dX7_init_153 fl_X7_19 0 (Nat.le_of_ble_eq_true rfl) rfl rfl ?_
  refine rIload_n dX7_init_156 rfl ?_
  refine rIconst (v := nI 1) dX7_init_157 (by decide) ?_
  refine tIast (i := 2) (n := 4) (g := (upd (upd (fun _ => 0) 0 (nI 1)) 1 (nI 1))) dX7_init_158 4 (Nat.le_of_ble_eq_true rfl) rfl (by decide) (by decide) ?_
  refine rAload_n dX7_init_159 rfl ?_
  refine tGet (fs := (.int 0 :: .int 0 :: .int 0 :: .int 0 :: .ref q0 :: .ref q1 :: .ref q2 :: .ref q3 :: .ref q4 :: .ref q5 :: .ref q6 :: .ref q7 :: .ref q8 :: .ref q9 :: .ref q10 :: .ref q11 :: .ref q12 :: .ref q13 :: .ref q14 :: [] : List Value)) dX7_init_160 fl_X7_22 0 (Nat.le_of_ble_eq_true rfl) rfl rfl ?_
  refine rIload_n dX7_init_163 rfl ?_
  refine rBipush (v := nI 20) dX7_init_164 (by decide) ?_
  refine tIast (i := 2) (n := 4) (g := (upd (upd (fun _ => 0) 0 (nI 20)) 1 (nI 20))) dX7_init_166 5 (Nat.le_of_ble_eq_true rfl) rfl (by decide) (by decide) ?_
  refine rIinc (v := nI 3) dX7_init_167 rfl (by rfl) (by decide) ?_
  refine rGoto (tgt := 139) dX7_init_170 (by decide) ?_
  refine rIload_n dX7_init_139 rfl ?_
  refine rIconst (v := nI 4) dX7_init_140 (by decide) ?_
  refine r_icmp_ge (tgt := 173) dX7_init_141 (by decide) (fun c => absurd c (by decide)) (fun c => ?_)
  refine rAload_n dX7_init_144 rfl ?_
  refine tGet (fs := (.int 0 :: .int 0 :: .int 0 :: .int 0 :: .ref q0 :: .ref q1 :: .ref q2 :: .ref q3 :: .ref q4 :: .ref q5 :: .ref q6 :: .ref q7 :: .ref q8 :: .ref q9 :: .ref q10 :: .ref q11 :: .ref q12 :: .ref q13 :: .ref q14 :: [] : List Value)) dX7_init_145 fl_X7_16 0 (Nat.le_of_ble_eq_true rfl) rfl rfl ?_
  refine rIload_n dX7_init_148 rfl ?_
  refine rBipush (v := nI 10) dX7_init_149 (by decide) ?_
  refine tIast (i := 3) (n := 4) (g := (upd (upd (upd (fun _ => 0) 0 (nI 10)) 1 (nI 10)) 2 (nI 10))) dX7_init_151 3 (Nat.le_of_ble_eq_true rfl) rfl (by decide) (by decide) ?_
  refine rAload_n dX7_init_152 rfl ?_
  refine tGet (fs := (.int 0 :: .int 0 :: .int 0 :: .int 0 :: .ref q0 :: .ref q1 :: .ref q2 :: .ref q3 :: .ref q4 :: .ref q5 :: .ref q6 :: .ref q7 :: .ref q8 :: .ref q9 :: .ref q10 :: .ref q11 :: .ref q12 :: .ref q13 :: .ref q14 :: [] : List Value)) dX7_init_153 fl_X7_19 0 (Nat.le_of_ble_eq_true rfl) rfl rfl ?_
  refine rIload_n dX7_init_156 rfl ?_
  refine rIconst (v := nI 1) dX7_init_157 (by decide) ?_
  refine tIast (i := 3) (n := 4) (g := (upd (upd (upd (fun _ => 0) 0 (nI 1)) 1 (nI 1)) 2 (nI 1))) dX7_init_158 4 (Nat.le_of_ble_eq_true rfl) rfl (by decide) (by decide) ?_
  refine rAload_n dX7_init_159 rfl ?_
  refine tGet (fs := (.int 0 :: .int 0 :: .int 0 :: .int 0 :: .ref q0 :: .ref q1 :: .ref q2 :: .ref q3 :: .ref q4 :: .ref q5 :: .ref q6 :: .ref q7 :: .ref q8 :: .ref q9 :: .ref q10 :: .ref q11 :: .ref q12 :: .ref q13 :: .ref q14 :: [] : List Value)) dX7_init_160 fl_X7_22 0 (Nat.le_of_ble_eq_true rfl) rfl rfl ?_
  refine rIload_n dX7_init_163 rfl ?_
  refine rBipush (v := nI 20) dX7_init_164 (by decide) ?_
  refine tIast (i := 3) (n := 4) (g := (upd (upd (upd (fun _ => 0) 0 (nI 20)) 1 (nI 20)) 2 (nI 20))) dX7_init_166 5 (Nat.le_of_ble_eq_true rfl) rfl (by decide) (by decide) ?_
  refine rIinc (v := nI 4) dX7_init_167 rfl (by rfl) (by decide) ?_
  refine rGoto (tgt := 139) dX7_init_170 (by decide) ?_
  refine rIload_n dX7_init_139 rfl ?_
  refine rIconst (v := nI 4) dX7_init_140 (by decide) ?_
  refine r_icmp_ge (tgt := 173) dX7_init_141 (by decide) (fun c => ?_) (fun c => absurd (by decide) c)
  refine rIconst (v := nI 0) dX7_init_173 (by decide) ?_
  refine rIstore_n dX7_init_174 (by decide) ?_
  refine rIload_n dX7_init_175 rfl ?_
  refine rBipush (v := nI 12) dX7_init_176 (by decide) ?_
  refine r_icmp_ge (tgt := 194) dX7_init_178 (by decide) (fun c => absurd c (by decide)) (fun c => ?_)
  refine rAload_n dX7_init_181 rfl ?_
  refine tGet (fs := (.int 0 :: .int 0 :: .int 0 :: .int 0 :: .ref q0 :: .ref q1 :: .ref q2 :: .ref q3 :: .ref q4 :: .ref q5 :: .ref q6 :: .ref q7 :: .ref q8 :: .ref q9 :: .ref q10 :: .ref q11 :: .ref q12 :: .ref q13 :: .ref q14 :: [] : List Value)) dX7_init_182 fl_X7_28 0 (Nat.le_of_ble_eq_true rfl) rfl rfl ?_
  refine rIload_n dX7_init_185 rfl ?_
  refine rIconst (v := -1) dX7_init_186 (by decide) ?_
  refine tIast (i := 0) (n := 12) (g := (fun _ => 0)) dX7_init_187 7 (Nat.le_of_ble_eq_true rfl) rfl (by decide) (by decide) ?_
  refine rIinc (v := nI 1) dX7_init_188 rfl (by rfl) (by decide) ?_
  refine rGoto (tgt := 175) dX7_init_191 (by decide) ?_
  refine rIload_n dX7_init_175 rfl ?_
  refine rBipush (v := nI 12) dX7_init_176 (by decide) ?_
  refine r_icmp_ge (tgt := 194) dX7_init_178 (by decide) (fun c => absurd c (by decide)) (fun c => ?_)
  refine rAload_n dX7_init_181 rfl ?_
  refine tGet (fs := (.int 0 :: .int 0 :: .int 0 :: .int 0 :: .ref q0 :: .ref q1 :: .ref q2 :: .ref q3 :: .ref q4 :: .ref q5 :: .ref q6 :: .ref q7 :: .ref q8 :: .ref q9 :: .ref q10 :: .ref q11 :: .ref q12 :: .ref q13 :: .ref q14 :: [] : List Value)) dX7_init_182 fl_X7_28 0 (Nat.le_of_ble_eq_true rfl) rfl rfl ?_
  refine rIload_n dX7_init_185 rfl ?_
  refine rIconst (v := -1) dX7_init_186 (by decide) ?_
  refine tIast (i := 1) (n := 12) (g := (upd (fun _ => 0) 0 (-1))) dX7_init_187 7 (Nat.le_of_ble_eq_true rfl) rfl (by decide) (by decide) ?_
  refine rIinc (v := nI 2) dX7_init_188 rfl (by rfl) (by decide) ?_
  refine rGoto (tgt := 175) dX7_init_191 (by decide) ?_
  refine rIload_n dX7_init_175 rfl ?_
  refine rBipush (v := nI 12) dX7_init_176 (by decide) ?_
  refine r_icmp_ge (tgt := 194) dX7_init_178 (by decide) (fun c => absurd c (by decide)) (fun c => ?_)
  refine rAload_n dX7_init_181 rfl ?_
  refine tGet (fs := (.int 0 :: .int 0 :: .int 0 :: .int 0 :: .ref q0 :: .ref q1 :: .ref q2 :: .ref q3 :: .ref q4 :: .ref q5 :: .ref q6 :: .ref q7 :: .ref q8 :: .ref q9 :: .ref q10 :: .ref q11 :: .ref q12 :: .ref q13 :: .ref q14 :: [] : List Value)) dX7_init_182 fl_X7_28 0 (Nat.le_of_ble_eq_true rfl) rfl rfl ?_
  refine rIload_n dX7_init_185 rfl ?_
  refine rIconst (v := -1) dX7_init_186 (by decide) ?_
  refine tIast (i := 2) (n := 12) (g := (upd (upd (fun _ => 0) 0 (-1)) 1 (-1))) dX7_init_187 7 (Nat.le_of_ble_eq_true rfl) rfl (by decide) (by decide) ?_
  refine rIinc (v := nI 3) dX7_init_188 rfl (by rfl) (by decide) ?_
  refine rGoto (tgt := 175) dX7_init_191 (by decide) ?_
  refine rIload_n dX7_init_175 rfl ?_
  refine rBipush (v := nI 12) dX7_init_176 (by decide) ?_
  refine r_icmp_ge (tgt := 194) dX7_init_178 (by decide) (fun c => absurd c (by decide)) (fun c => ?_)
  refine rAload_n dX7_init_181 rfl ?_
  refine tGet (fs := (.int 0 :: .int 0 :: .int 0 :: .int 0 :: .ref q0 :: .ref q1 :: .ref q2 :: .ref q3 :: .ref q4 :: .ref q5 :: .ref q6 :: .ref q7 :: .ref q8 :: .ref q9 :: .ref q10 :: .ref q11 :: .ref q12 :: .ref q13 :: .ref q14 :: [] : List Value)) dX7_init_182 fl_X7_28 0 (Nat.le_of_ble_eq_true rfl) rfl rfl ?_
  refine rIload_n dX7_init_185 rfl ?_
  refine rIconst (v := -1) dX7_init_186 (by decide) ?_
  refine tIast (i := 3) (n := 12) (g := (upd (upd (upd (fun _ => 0) 0 (-1)) 1 (-1)) 2 (-1))) dX7_init_187 7 (Nat.le_of_ble_eq_true rfl) rfl (by decide) (by decide) ?_
  refine rIinc (v := nI 4) dX7_init_188 rfl (by rfl) (by decide) ?_
  refine rGoto (tgt := 175) dX7_init_191 (by decide) ?_
  refine rIload_n dX7_init_175 rfl ?_
  refine rBipush (v := nI 12) dX7_init_176 (by decide) ?_
  refine r_icmp_ge (tgt := 194) dX7_init_178 (by decide) (fun c => absurd c (by decide)) (fun c => ?_)
  refine rAload_n dX7_init_181 rfl ?_
  refine tGet (fs := (.int 0 :: .int 0 :: .int 0 :: .int 0 :: .ref q0 :: .ref q1 :: .ref q2 :: .ref q3 :: .ref q4 :: .ref q5 :: .ref q6 :: .ref q7 :: .ref q8 :: .ref q9 :: .ref q10 :: .ref q11 :: .ref q12 :: .ref q13 :: .ref q14 :: [] : List Value)) dX7_init_182 fl_X7_28 0 (Nat.le_of_ble_eq_true rfl) rfl rfl ?_
  refine rIload_n dX7_init_185 rfl ?_
  refine rIconst (v := -1) dX7_init_186 (by decide) ?_
  refine tIast (i := 4) (n := 12) (g := (upd (upd (upd (upd (fun _ => 0) 0 (-1)) 1 (-1)) 2 (-1)) 3 (-1))) dX7_init_187 7 (Nat.le_of_ble_eq_true rfl) rfl (by decide) (by decide) ?_
  refine rIinc (v := nI 5) dX7_init_188 rfl (by rfl) (by decide) ?_
  refine rGoto (tgt := 175) dX7_init_191 (by decide) ?_
  refine rIload_n dX7_init_175 rfl ?_
  refine rBipush (v := nI 12) dX7_init_176 (by decide) ?_
  refine r_icmp_ge (tgt := 194) dX7_init_178 (by decide) (fun c => absurd c (by decide)) (fun c => ?_)
  refine rAload_n dX7_init_181 rfl ?_
  refine tGet (fs := (.int 0 :: .int 0 :: .int 0 :: .int 0 :: .ref q0 :: .ref q1 :: .ref q2 :: .ref q3 :: .ref q4 :: .ref q5 :: .ref q6 :: .ref q7 :: .ref q8 :: .ref q9 :: .ref q10 :: .ref q11 :: .ref q12 :: .ref q13 :: .ref q14 :: [] : List Value)) dX7_init_182 fl_X7_28 0 (Nat.le_of_ble_eq_true rfl) rfl rfl ?_
  refine rIload_n dX7_init_185 rfl ?_
  refine rIconst (v := -1) dX7_init_186 (by decide) ?_
  refine tIast (i := 5) (n := 12) (g := (upd (upd (upd (upd (upd (fun _ => 0) 0 (-1)) 1 (-1)) 2 (-1)) 3 (-1)) 4 (-1))) dX7_init_187 7 (Nat.le_of_ble_eq_true rfl) rfl (by decide) (by decide) ?_
  refine rIinc (v := nI 6) dX7_init_188 rfl (by rfl) (by decide) ?_
  refine rGoto (tgt := 175) dX7_init_191 (by decide) ?_
  refine rIload_n dX7_init_175 rfl ?_
  refine rBipush (v := nI 12) dX7_init_176 (by decide) ?_
  refine r_icmp_ge (tgt := 194) dX7_init_178 (by decide) (fun c => absurd c (by decide)) (fun c => ?_)
  refine rAload_n dX7_init_181 rfl ?_
  refine tGet (fs := (.int 0 :: .int 0 :: .int 0 :: .int 0 :: .ref q0 :: .ref q1 :: .ref q2 :: .ref q3 :: .ref q4 :: .ref q5 :: .ref q6 :: .ref q7 :: .ref q8 :: .ref q9 :: .ref q10 :: .ref q11 :: .ref q12 :: .ref q13 :: .ref q14 :: [] : List Value)) dX7_init_182 fl_X7_28 0 (Nat.le_of_ble_eq_true rfl) rfl rfl ?_
  refine rIload_n dX7_init_185 rfl ?_
  refine rIconst (v := -1) dX7_init_186 (by decide) ?_
  refine tIast (i := 6) (n := 12) (g := (upd (upd (upd (upd (upd (upd (fun _ => 0) 0 (-1)) 1 (-1)) 2 (-1)) 3 (-1)) 4 (-1)) 5 (-1))) dX7_init_187 7 (Nat.le_of_ble_eq_true rfl) rfl (by decide) (by decide) ?_
  refine rIinc (v := nI 7) dX7_init_188 rfl (by rfl) (by decide) ?_
  refine rGoto (tgt := 175) dX7_init_191 (by decide) ?_
  refine rIload_n dX7_init_175 rfl ?_
  refine rBipush (v := nI 12) dX7_init_176 (by decide) ?_
  refine r_icmp_ge (tgt := 194) dX7_init_178 (by decide) (fun c => absurd c (by decide)) (fun c => ?_)
  refine rAload_n dX7_init_181 rfl ?_
  refine tGet (fs := (.int 0 :: .int 0 :: .int 0 :: .int 0 :: .ref q0 :: .ref q1 :: .ref q2 :: .ref q3 :: .ref q4 :: .ref q5 :: .ref q6 :: .ref q7 :: .ref q8 :: .ref q9 :: .ref q10 :: .ref q11 :: .ref q12 :: .ref q13 :: .ref q14 :: [] : List Value)) dX7_init_182 fl_X7_28 0 (Nat.le_of_ble_eq_true rfl) rfl rfl ?_
  refine rIload_n dX7_init_185 rfl ?_
  refine rIconst (v := -1) dX7_init_186 (by decide) ?_
  refine tIast (i := 7) (n := 12) (g := (upd (upd (upd (upd (upd (upd (upd (fun _ => 0) 0 (-1)) 1 (-1)) 2 (-1)) 3 (-1)) 4 (-1)) 5 (-1)) 6 (-1))) dX7_init_187 7 (Nat.le_of_ble_eq_true rfl) rfl (by decide) (by decide) ?_
  refine rIinc (v := nI 8) dX7_init_188 rfl (by rfl) (by decide) ?_
  refine rGoto (tgt := 175) dX7_init_191 (by decide) ?_
  refine rIload_n dX7_init_175 rfl ?_
  refine rBipush (v := nI 12) dX7_init_176 (by decide) ?_
  refine r_icmp_ge (tgt := 194) dX7_init_178 (by decide) (fun c => absurd c (by decide)) (fun c => ?_)
  refine rAload_n dX7_init_181 rfl ?_
  refine tGet (fs := (.int 0 :: .int 0 :: .int 0 :: .int 0 :: .ref q0 :: .ref q1 :: .ref q2 :: .ref q3 :: .ref q4 :: .ref q5 :: .ref q6 :: .ref q7 :: .ref q8 :: .ref q9 :: .ref q10 :: .ref q11 :: .ref q12 :: .ref q13 :: .ref q14 :: [] : List Value)) dX7_init_182 fl_X7_28 0 (Nat.le_of_ble_eq_true rfl) rfl rfl ?_
  refine rIload_n dX7_init_185 rfl ?_
  refine rIconst (v := -1) dX7_init_186 (by decide) ?_
  refine tIast (i := 8) (n := 12) (g := (upd (upd (upd (upd (upd (upd (upd (upd (fun _ => 0) 0 (-1)) 1 (-1)) 2 (-1)) 3 (-1)) 4 (-1)) 5 (-1)) 6 (-1)) 7 (-1))) dX7_init_187 7 (Nat.le_of_ble_eq_true rfl) rfl (by decide) (by decide) ?_
  refine rIinc (v := nI 9) dX7_init_188 rfl (by rfl) (by decide) ?_
  refine rGoto (tgt := 175) dX7_init_191 (by decide) ?_
  refine rIload_n dX7_init_175 rfl ?_
  refine rBipush (v := nI 12) dX7_init_176 (by decide) ?_
  refine r_icmp_ge (tgt := 194) dX7_init_178 (by decide) (fun c => absurd c (by decide)) (fun c => ?_)
  refine rAload_n dX7_init_181 rfl ?_
  refine tGet (fs := (.int 0 :: .int 0 :: .int 0 :: .int 0 :: .ref q0 :: .ref q1 :: .ref q2 :: .ref q3 :: .ref q4 :: .ref q5 :: .ref q6 :: .ref q7 :: .ref q8 :: .ref q9 :: .ref q10 :: .ref q11 :: .ref q12 :: .ref q13 :: .ref q14 :: [] : List Value)) dX7_init_182 fl_X7_28 0 (Nat.le_of_ble_eq_true rfl) rfl rfl ?_
  refine rIload_n dX7_init_185 rfl ?_
  refine rIconst (v := -1) dX7_init_186 (by decide) ?_
  refine tIast (i := 9) (n := 12) (g := (upd (upd (upd (upd (upd (upd (upd (upd (upd (fun _ => 0) 0 (-1)) 1 (-1)) 2 (-1)) 3 (-1)) 4 (-1)) 5 (-1)) 6 (-1)) 7 (-1)) 8 (-1))) dX7_init_187 7 (Nat.le_of_ble_eq_true rfl) rfl (by decide) (by decide) ?_
  refine rIinc (v := nI 10) dX7_init_188 rfl (by rfl) (by decide) ?_
  refine rGoto (tgt := 175) dX7_init_191 (by decide) ?_
  refine rIload_n dX7_init_175 rfl ?_
  refine rBipush (v := nI 12) dX7_init_176 (by decide) ?_
  refine r_icmp_ge (tgt := 194) dX7_init_178 (by decide) (fun c => absurd c (by decide)) (fun c => ?_)
  refine rAload_n dX7_init_181 rfl ?_
  refine tGet (fs := (.int 0 :: .int 0 :: .int 0 :: .int 0 :: .ref q0 :: .ref q1 :: .ref q2 :: .ref q3 :: .ref q4 :: .ref q5 :: .ref q6 :: .ref q7 :: .ref q8 :: .ref q9 :: .ref q10 :: .ref q11 :: .ref q12 :: .ref q13 :: .ref q14 :: [] : List Value)) dX7_init_182 fl_X7_28 0 (Nat.le_of_ble_eq_true rfl) rfl rfl ?_
  refine rIload_n dX7_init_185 rfl ?_
  refine rIconst (v := -1) dX7_init_186 (by decide) ?_
  refine tIast (i := 10) (n := 12) (g := (upd (upd (upd (upd (upd (upd (upd (upd (upd (upd (fun _ => 0) 0 (-1)) 1 (-1)) 2 (-1)) 3 (-1)) 4 (-1)) 5 (-1)) 6 (-1)) 7 (-1)) 8 (-1)) 9 (-1))) dX7_init_187 7 (Nat.le_of_ble_eq_true rfl) rfl (by decide) (by decide) ?_
  refine rIinc (v := nI 11) dX7_init_188 rfl (by rfl) (by decide) ?_
  refine rGoto (tgt := 175) dX7_init_191 (by decide) ?_
  refine rIload_n dX7_init_175 rfl ?_
  refine rBipush (v := nI 12) dX7_init_176 (by decide) ?_
  refine r_icmp_ge (tgt := 194) dX7_init_178 (by decide) (fun c => absurd c (by decide)) (fun c => ?_)
  refine rAload_n dX7_init_181 rfl ?_
  refine tGet (fs := (.int 0 :: .int 0 :: .int 0 :: .int 0 :: .ref q0 :: .ref q1 :: .ref q2 :: .ref q3 :: .ref q4 :: .ref q5 :: .ref q6 :: .ref q7 :: .ref q8 :: .ref q9 :: .ref q10 :: .ref q11 :: .ref q12 :: .ref q13 :: .ref q14 :: [] : List Value)) dX7_init_182 fl_X7_28 0 (Nat.le_of_ble_eq_true rfl) rfl rfl ?_
  refine rIload_n dX7_init_185 rfl ?_
  refine rIconst (v := -1) dX7_init_186 (by decide) ?_
  refine tIast (i := 11) (n := 12) (g := (upd (upd (upd (upd (upd (upd (upd (upd (upd (upd (upd (fun _ => 0) 0 (-1)) 1 (-1)) 2 (-1)) 3 (-1)) 4 (-1)) 5 (-1)) 6 (-1)) 7 (-1)) 8 (-1)) 9 (-1)) 10 (-1))) dX7_init_187 7 (Nat.le_of_ble_eq_true rfl) rfl (by decide) (by decide) ?_
  refine rIinc (v := nI 12) dX7_init_188 rfl (by rfl) (by decide) ?_
  refine rGoto (tgt := 175) dX7_init_191 (by decide) ?_
  refine rIload_n dX7_init_175 rfl ?_
  refine rBipush (v := nI 12) dX7_init_176 (by decide) ?_
  refine r_icmp_ge (tgt := 194) dX7_init_178 (by decide) (fun c => ?_) (fun c => absurd (by decide) c)
  exact rVret dX7_init_194 rfl (Nat.le_of_ble_eq_true rfl) (Nat.le_of_ble_eq_true rfl) ⟨rfl, (fun k => (a :: q0 :: q1 :: q2 :: q3 :: q4 :: q5 :: q6 :: q7 :: q8 :: q9 :: q10 :: q11 :: q12 :: q13 :: q14 :: [] : List Nat).getD k 0), _, rfl, rfl, all_s rfl (all_s rfl (all_s rfl (all_s rfl (all_s rfl (all_s rfl (all_s rfl (all_s rfl (all_s rfl (all_s rfl (all_s rfl (all_s rfl (all_s rfl (all_s rfl (all_s rfl (all_s rfl (all_0) rfl) rfl) rfl) rfl) rfl) rfl) rfl) rfl) rfl) rfl) rfl) rfl) rfl) rfl) rfl) rfl⟩
