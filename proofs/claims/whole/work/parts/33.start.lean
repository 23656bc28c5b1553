/-! the world at the loop of the law: hall at 0, reference at 47, the long array at 63 (by program) -/
def shL : List shT := (6, 0, [some 1, some 2, some 4, some 6, none]) :: (10, 4, [some 15, some 23, some 31, some 39]) :: (3, 0, [some 3]) :: (8, 9, []) :: (1, 0, [some 5, none, none]) :: (8, 100, []) :: (0, 0, [some 7, some 10, some 13, some 14, none]) :: (4, 0, [some 8, some 9, none, none]) :: (8, 5, []) :: (8, 5, []) :: (4, 0, [some 11, some 12, none, none]) :: (8, 5, []) :: (8, 5, []) :: (8, 60, []) :: (8, 60, []) :: (2, 0, [none, none, none, none, none, some 16, some 17, some 20]) :: (8, 3, []) :: (5, 0, [some 18, some 19, none]) :: (8, 6, []) :: (8, 6, []) :: (5, 0, [some 21, some 22, none]) :: (8, 5, []) :: (8, 5, []) :: (2, 0, [none, none, none, none, none, some 24, some 25, some 28]) :: (8, 3, []) :: (5, 0, [some 26, some 27, none]) :: (8, 6, []) :: (8, 6, []) :: (5, 0, [some 29, some 30, none]) :: (8, 5, []) :: (8, 5, []) :: (2, 0, [none, none, none, none, none, some 32, some 33, some 36]) :: (8, 3, []) :: (5, 0, [some 34, some 35, none]) :: (8, 6, []) :: (8, 6, []) :: (5, 0, [some 37, some 38, none]) :: (8, 5, []) :: (8, 5, []) :: (2, 0, [none, none, none, none, none, some 40, some 41, some 44]) :: (8, 3, []) :: (5, 0, [some 42, some 43, none]) :: (8, 6, []) :: (8, 6, []) :: (5, 0, [some 45, some 46, none]) :: (8, 5, []) :: (8, 5, []) :: (7, 0, [none, none, none, none, some 48, some 49, some 50, some 51, some 52, some 53, some 54, some 55, some 56, some 57, some 58, some 59, some 60, some 61, some 62]) :: (8, 100, []) :: (8, 9, []) :: (8, 4, []) :: (8, 4, []) :: (8, 4, []) :: (8, 4, []) :: (8, 12, []) :: (9, 4, []) :: (8, 4, []) :: (8, 24, []) :: (8, 4, []) :: (8, 20, []) :: (8, 2, []) :: (8, 2, []) :: (8, 10, []) :: (11, 1, []) :: []
def sh0 (k : Nat) : shT := shL.getD k (0, 0, [])
def s0 (k : Nat) : Nat → Int32 := ((fun j => ([0, 0, 0, 0, 0] : List Int32).getD j 0) :: (fun _ => 0) :: (fun _ => 0) :: (upd (upd (upd (upd (upd (upd (upd (upd (upd (fun _ => 0) 0 (nI 9)) 1 (nI 9)) 2 (nI 9)) 3 (nI 9)) 4 (nI 9)) 5 (nI 9)) 6 (nI 9)) 7 (nI 9)) 8 (nI 9)) :: (fun j => ([0, 0, 0] : List Int32).getD j 0) :: (fun _ => 0) :: (fun j => ([0, 0, 0, 0, 0] : List Int32).getD j 0) :: (fun j => ([0, 0, 0, 0] : List Int32).getD j 0) :: (fun _ => 0) :: (fun _ => 0) :: (fun j => ([0, 0, 0, 0] : List Int32).getD j 0) :: (fun _ => 0) :: (fun _ => 0) :: (fun _ => 0) :: (fun _ => 0) :: (fun j => ([(nI 10), (nI 1), (nI 20), 0, 0, 0, 0, 0] : List Int32).getD j 0) :: (upd (upd (upd (fun _ => 0) 0 (-1)) 1 (-1)) 2 (-1)) :: (fun j => ([0, 0, 0] : List Int32).getD j 0) :: (fun _ => 0) :: (fun _ => 0) :: (fun j => ([0, 0, 0] : List Int32).getD j 0) :: (fun _ => 0) :: (fun _ => 0) :: (fun j => ([(nI 10), (nI 1), (nI 20), 0, 0, 0, 0, 0] : List Int32).getD j 0) :: (upd (upd (upd (fun _ => 0) 0 (-1)) 1 (-1)) 2 (-1)) :: (fun j => ([0, 0, 0] : List Int32).getD j 0) :: (fun _ => 0) :: (fun _ => 0) :: (fun j => ([0, 0, 0] : List Int32).getD j 0) :: (fun _ => 0) :: (fun _ => 0) :: (fun j => ([(nI 10), (nI 1), (nI 20), 0, 0, 0, 0, 0] : List Int32).getD j 0) :: (upd (upd (upd (fun _ => 0) 0 (-1)) 1 (-1)) 2 (-1)) :: (fun j => ([0, 0, 0] : List Int32).getD j 0) :: (fun _ => 0) :: (fun _ => 0) :: (fun j => ([0, 0, 0] : List Int32).getD j 0) :: (fun _ => 0) :: (fun _ => 0) :: (fun j => ([(nI 10), (nI 1), (nI 20), 0, 0, 0, 0, 0] : List Int32).getD j 0) :: (upd (upd (upd (fun _ => 0) 0 (-1)) 1 (-1)) 2 (-1)) :: (fun j => ([0, 0, 0] : List Int32).getD j 0) :: (fun _ => 0) :: (fun _ => 0) :: (fun j => ([0, 0, 0] : List Int32).getD j 0) :: (fun _ => 0) :: (fun _ => 0) :: (fun j => ([0, 0, 0, 0, 0, 0, 0, 0, 0, 0, 0, 0, 0, 0, 0, 0, 0, 0, 0] : List Int32).getD j 0) :: (fun _ => 0) :: (upd (upd (upd (upd (upd (upd (upd (upd (upd (fun _ => 0) 0 (nI 9)) 1 (nI 9)) 2 (nI 9)) 3 (nI 9)) 4 (nI 9)) 5 (nI 9)) 6 (nI 9)) 7 (nI 9)) 8 (nI 9)) :: (upd (upd (upd (upd (fun _ => 0) 0 (nI 10)) 1 (nI 10)) 2 (nI 10)) 3 (nI 10)) :: (upd (upd (upd (upd (fun _ => 0) 0 (nI 1)) 1 (nI 1)) 2 (nI 1)) 3 (nI 1)) :: (upd (upd (upd (upd (fun _ => 0) 0 (nI 20)) 1 (nI 20)) 2 (nI 20)) 3 (nI 20)) :: (fun _ => 0) :: (upd (upd (upd (upd (upd (upd (upd (upd (upd (upd (upd (upd (fun _ => 0) 0 (-1)) 1 (-1)) 2 (-1)) 3 (-1)) 4 (-1)) 5 (-1)) 6 (-1)) 7 (-1)) 8 (-1)) 9 (-1)) 10 (-1)) 11 (-1)) :: (fun _ => 0) :: (fun _ => 0) :: (fun _ => 0) :: (fun _ => 0) :: (fun _ => 0) :: (fun _ => 0) :: (fun _ => 0) :: (fun _ => 0) :: (fun _ => 0) :: [] : List (Nat → Int32)).getD k (fun _ => 0)
def adW (a6 a7 : Nat → Nat) (q : Nat) (k : Nat) : Nat := if k < 47 then a6 k else if k < 63 then a7 (k - 47) else q
def V0 (a6 a7 : Nat → Nat) (q : Nat) : wV := (sh0, 64, adW a6 a7 q)
theorem tab_tab {n n2 n' : Nat} {f g : Nat → Nat × va_E} (h : n + n2 = n') : tab n f ++ tab n2 g = tab n' (fun k => if k < n then f k else g (k - n)) := by
  rw [tab_cat (n' := n') (l := tab n2 g) (by rw [tab_len]; exact h)]
  apply tab_ext
  intro k hk
  by_cases e : k < n
  · rw [if_pos e, if_pos e]
  · rw [if_neg e, if_neg e, List.getD_eq_getElem?_getD, tab_get (by omega)]
    rfl
def fsL (V : wV) (s : sgT) (k : Nat) : Nat → List (Option Nat) → List Value
  | _, [] => []
  | j, o :: l => fsV V s k j o :: fsL V s k (j + 1) l
theorem fsL_get {V : wV} {s : sgT} {k : Nat} : ∀ (l : List (Option Nat)) (j i : Nat), (fsL V s k j l)[i]? = l[i]?.map (fun o => fsV V s k (j + i) o)
  | [], _, _ => rfl
  | o :: l, j, 0 => rfl
  | o :: l, j, i + 1 => by
    show (fsL V s k (j + 1) l)[i]? = _
    rw [fsL_get l (j + 1) i, show j + 1 + i = j + (i + 1) by omega]
    rfl
theorem fsO_eq {V : wV} {s : sgT} {k : Nat} {fl : List (Option Nat)} : fsO V s k fl = fsL V s k 0 fl := by
  apply List.ext_getElem?
  intro i
  rw [fsL_get, Nat.zero_add]
  unfold fsO
  rw [List.getElem?_mapIdx]
theorem w_O {G : gG} {V : wV} {s : sgT} {lo : Nat → Int64} {k ci len : Nat} {fl : List (Option Nat)} {fs : List Value} (h : shAt V k (ci, len, fl)) (hc : ci < 8) (he : fsL V s k 0 fl = fs) : (.inr (ci, fs) : va_E) = cel G V s lo k := by
  rw [cel_O h hc, fsO_eq, he]
theorem w_I {G : gG} {V : wV} {s : sgT} {lo : Nat → Int64} {k n : Nat} {g : Nat → Int32} (h : shAt V k (8, n, [])) (he : s k = g) : (.inl (gcy G 0, n, .inl g) : va_E) = cel G V s lo k := by
  rw [cel_I h, he]
theorem w_Z {G : gG} {V : wV} {s : sgT} {lo : Nat → Int64} {k n : Nat} {g : Nat → Int32} (h : shAt V k (9, n, [])) (he : s k = g) : (.inl (gcy G 1, n, .inl g) : va_E) = cel G V s lo k := by
  rw [cel_Z h, he]
theorem w_J {G : gG} {V : wV} {s : sgT} {lo : Nat → Int64} {k n : Nat} (h : shAt V k (11, n, [])) : (.inl (gcy G 3, n, .inr (.inl lo)) : va_E) = cel G V s lo k := by
  rw [cel_J h]
theorem w0_0 {G : gG} {a6 a7 : Nat → Nat} {q : Nat} {lo : Nat → Int64} : (a6 0, cM6 G a6 0) = (adW a6 a7 q 0, cel G (V0 a6 a7 q) s0 lo 0) := congrArg (Prod.mk (a6 0)) (w_O (k := 0) (fl := [some 1, some 2, some 4, some 6, none]) ⟨(Nat.le_of_ble_eq_true rfl), rfl⟩ (by decide) rfl)
theorem w0_1 {G : gG} {a6 a7 : Nat → Nat} {q : Nat} {lo : Nat → Int64} : (a6 1, cM6 G a6 1) = (adW a6 a7 q 1, cel G (V0 a6 a7 q) s0 lo 1) := by
  have e : (va_up (va_up (va_up (va_up (fun _ => none) 0 (some (a6 15))) 1 (some (a6 23))) 2 (some (a6 31))) 3 (some (a6 39)) : Nat → Option Nat) = fun i => (([some 15, some 23, some 31, some 39] : List (Option Nat)).getD i none).map (ad (V0 a6 a7 q)) := by
    funext i
    rcases i with _ | _ | _ | _ | i
    · rfl
    · rfl
    · rfl
    · rfl
    · simp [va_up]
  refine congrArg (Prod.mk (a6 1)) ?_
  show (.inl (gcy G 2, 4, .inr (.inr (.inr (.inr _)))) : va_E) = _
  rw [cel_P (n := 4) (fl := [some 15, some 23, some 31, some 39]) ⟨(Nat.le_of_ble_eq_true rfl), rfl⟩, ← e]
theorem w0_2 {G : gG} {a6 a7 : Nat → Nat} {q : Nat} {lo : Nat → Int64} : (a6 2, cM6 G a6 2) = (adW a6 a7 q 2, cel G (V0 a6 a7 q) s0 lo 2) := congrArg (Prod.mk (a6 2)) (w_O (k := 2) (fl := [some 3]) ⟨(Nat.le_of_ble_eq_true rfl), rfl⟩ (by decide) rfl)
theorem w0_3 {G : gG} {a6 a7 : Nat → Nat} {q : Nat} {lo : Nat → Int64} : (a6 3, cM6 G a6 3) = (adW a6 a7 q 3, cel G (V0 a6 a7 q) s0 lo 3) := congrArg (Prod.mk (a6 3)) (w_I (k := 3) (n := 9) ⟨(Nat.le_of_ble_eq_true rfl), rfl⟩ rfl)
theorem w0_4 {G : gG} {a6 a7 : Nat → Nat} {q : Nat} {lo : Nat → Int64} : (a6 4, cM6 G a6 4) = (adW a6 a7 q 4, cel G (V0 a6 a7 q) s0 lo 4) := congrArg (Prod.mk (a6 4)) (w_O (k := 4) (fl := [some 5, none, none]) ⟨(Nat.le_of_ble_eq_true rfl), rfl⟩ (by decide) rfl)
theorem w0_5 {G : gG} {a6 a7 : Nat → Nat} {q : Nat} {lo : Nat → Int64} : (a6 5, cM6 G a6 5) = (adW a6 a7 q 5, cel G (V0 a6 a7 q) s0 lo 5) := congrArg (Prod.mk (a6 5)) (w_I (k := 5) (n := 100) ⟨(Nat.le_of_ble_eq_true rfl), rfl⟩ rfl)
theorem w0_6 {G : gG} {a6 a7 : Nat → Nat} {q : Nat} {lo : Nat → Int64} : (a6 6, cM6 G a6 6) = (adW a6 a7 q 6, cel G (V0 a6 a7 q) s0 lo 6) := congrArg (Prod.mk (a6 6)) (w_O (k := 6) (fl := [some 7, some 10, some 13, some 14, none]) ⟨(Nat.le_of_ble_eq_true rfl), rfl⟩ (by decide) rfl)
theorem w0_7 {G : gG} {a6 a7 : Nat → Nat} {q : Nat} {lo : Nat → Int64} : (a6 7, cM6 G a6 7) = (adW a6 a7 q 7, cel G (V0 a6 a7 q) s0 lo 7) := congrArg (Prod.mk (a6 7)) (w_O (k := 7) (fl := [some 8, some 9, none, none]) ⟨(Nat.le_of_ble_eq_true rfl), rfl⟩ (by decide) rfl)
theorem w0_8 {G : gG} {a6 a7 : Nat → Nat} {q : Nat} {lo : Nat → Int64} : (a6 8, cM6 G a6 8) = (adW a6 a7 q 8, cel G (V0 a6 a7 q) s0 lo 8) := congrArg (Prod.mk (a6 8)) (w_I (k := 8) (n := 5) ⟨(Nat.le_of_ble_eq_true rfl), rfl⟩ rfl)
theorem w0_9 {G : gG} {a6 a7 : Nat → Nat} {q : Nat} {lo : Nat → Int64} : (a6 9, cM6 G a6 9) = (adW a6 a7 q 9, cel G (V0 a6 a7 q) s0 lo 9) := congrArg (Prod.mk (a6 9)) (w_I (k := 9) (n := 5) ⟨(Nat.le_of_ble_eq_true rfl), rfl⟩ rfl)
theorem w0_10 {G : gG} {a6 a7 : Nat → Nat} {q : Nat} {lo : Nat → Int64} : (a6 10, cM6 G a6 10) = (adW a6 a7 q 10, cel G (V0 a6 a7 q) s0 lo 10) := congrArg (Prod.mk (a6 10)) (w_O (k := 10) (fl := [some 11, some 12, none, none]) ⟨(Nat.le_of_ble_eq_true rfl), rfl⟩ (by decide) rfl)
theorem w0_11 {G : gG} {a6 a7 : Nat → Nat} {q : Nat} {lo : Nat → Int64} : (a6 11, cM6 G a6 11) = (adW a6 a7 q 11, cel G (V0 a6 a7 q) s0 lo 11) := congrArg (Prod.mk (a6 11)) (w_I (k := 11) (n := 5) ⟨(Nat.le_of_ble_eq_true rfl), rfl⟩ rfl)
theorem w0_12 {G : gG} {a6 a7 : Nat → Nat} {q : Nat} {lo : Nat → Int64} : (a6 12, cM6 G a6 12) = (adW a6 a7 q 12, cel G (V0 a6 a7 q) s0 lo 12) := congrArg (Prod.mk (a6 12)) (w_I (k := 12) (n := 5) ⟨(Nat.le_of_ble_eq_true rfl), rfl⟩ rfl)
theorem w0_13 {G : gG} {a6 a7 : Nat → Nat} {q : Nat} {lo : Nat → Int64} : (a6 13, cM6 G a6 13) = (adW a6 a7 q 13, cel G (V0 a6 a7 q) s0 lo 13) := congrArg (Prod.mk (a6 13)) (w_I (k := 13) (n := 60) ⟨(Nat.le_of_ble_eq_true rfl), rfl⟩ rfl)
theorem w0_14 {G : gG} {a6 a7 : Nat → Nat} {q : Nat} {lo : Nat → Int64} : (a6 14, cM6 G a6 14) = (adW a6 a7 q 14, cel G (V0 a6 a7 q) s0 lo 14) := congrArg (Prod.mk (a6 14)) (w_I (k := 14) (n := 60) ⟨(Nat.le_of_ble_eq_true rfl), rfl⟩ rfl)
theorem w0_15 {G : gG} {a6 a7 : Nat → Nat} {q : Nat} {lo : Nat → Int64} : (a6 15, cM6 G a6 15) = (adW a6 a7 q 15, cel G (V0 a6 a7 q) s0 lo 15) := congrArg (Prod.mk (a6 15)) (w_O (k := 15) (fl := [none, none, none, none, none, some 16, some 17, some 20]) ⟨(Nat.le_of_ble_eq_true rfl), rfl⟩ (by decide) rfl)
theorem w0_16 {G : gG} {a6 a7 : Nat → Nat} {q : Nat} {lo : Nat → Int64} : (a6 16, cM6 G a6 16) = (adW a6 a7 q 16, cel G (V0 a6 a7 q) s0 lo 16) := congrArg (Prod.mk (a6 16)) (w_I (k := 16) (n := 3) ⟨(Nat.le_of_ble_eq_true rfl), rfl⟩ rfl)
theorem w0_17 {G : gG} {a6 a7 : Nat → Nat} {q : Nat} {lo : Nat → Int64} : (a6 17, cM6 G a6 17) = (adW a6 a7 q 17, cel G (V0 a6 a7 q) s0 lo 17) := congrArg (Prod.mk (a6 17)) (w_O (k := 17) (fl := [some 18, some 19, none]) ⟨(Nat.le_of_ble_eq_true rfl), rfl⟩ (by decide) rfl)
theorem w0_18 {G : gG} {a6 a7 : Nat → Nat} {q : Nat} {lo : Nat → Int64} : (a6 18, cM6 G a6 18) = (adW a6 a7 q 18, cel G (V0 a6 a7 q) s0 lo 18) := congrArg (Prod.mk (a6 18)) (w_I (k := 18) (n := 6) ⟨(Nat.le_of_ble_eq_true rfl), rfl⟩ rfl)
theorem w0_19 {G : gG} {a6 a7 : Nat → Nat} {q : Nat} {lo : Nat → Int64} : (a6 19, cM6 G a6 19) = (adW a6 a7 q 19, cel G (V0 a6 a7 q) s0 lo 19) := congrArg (Prod.mk (a6 19)) (w_I (k := 19) (n := 6) ⟨(Nat.le_of_ble_eq_true rfl), rfl⟩ rfl)
theorem w0_20 {G : gG} {a6 a7 : Nat → Nat} {q : Nat} {lo : Nat → Int64} : (a6 20, cM6 G a6 20) = (adW a6 a7 q 20, cel G (V0 a6 a7 q) s0 lo 20) := congrArg (Prod.mk (a6 20)) (w_O (k := 20) (fl := [some 21, some 22, none]) ⟨(Nat.le_of_ble_eq_true rfl), rfl⟩ (by decide) rfl)
theorem w0_21 {G : gG} {a6 a7 : Nat → Nat} {q : Nat} {lo : Nat → Int64} : (a6 21, cM6 G a6 21) = (adW a6 a7 q 21, cel G (V0 a6 a7 q) s0 lo 21) := congrArg (Prod.mk (a6 21)) (w_I (k := 21) (n := 5) ⟨(Nat.le_of_ble_eq_true rfl), rfl⟩ rfl)
theorem w0_22 {G : gG} {a6 a7 : Nat → Nat} {q : Nat} {lo : Nat → Int64} : (a6 22, cM6 G a6 22) = (adW a6 a7 q 22, cel G (V0 a6 a7 q) s0 lo 22) := congrArg (Prod.mk (a6 22)) (w_I (k := 22) (n := 5) ⟨(Nat.le_of_ble_eq_true rfl), rfl⟩ rfl)
theorem w0_23 {G : gG} {a6 a7 : Nat → Nat} {q : Nat} {lo : Nat → Int64} : (a6 23, cM6 G a6 23) = (adW a6 a7 q 23, cel G (V0 a6 a7 q) s0 lo 23) := congrArg (Prod.mk (a6 23)) (w_O (k := 23) (fl := [none, none, none, none, none, some 24, some 25, some 28]) ⟨(Nat.le_of_ble_eq_true rfl), rfl⟩ (by decide) rfl)
theorem w0_24 {G : gG} {a6 a7 : Nat → Nat} {q : Nat} {lo : Nat → Int64} : (a6 24, cM6 G a6 24) = (adW a6 a7 q 24, cel G (V0 a6 a7 q) s0 lo 24) := congrArg (Prod.mk (a6 24)) (w_I (k := 24) (n := 3) ⟨(Nat.le_of_ble_eq_true rfl), rfl⟩ rfl)
theorem w0_25 {G : gG} {a6 a7 : Nat → Nat} {q : Nat} {lo : Nat → Int64} : (a6 25, cM6 G a6 25) = (adW a6 a7 q 25, cel G (V0 a6 a7 q) s0 lo 25) := congrArg (Prod.mk (a6 25)) (w_O (k := 25) (fl := [some 26, some 27, none]) ⟨(Nat.le_of_ble_eq_true rfl), rfl⟩ (by decide) rfl)
theorem w0_26 {G : gG} {a6 a7 : Nat → Nat} {q : Nat} {lo : Nat → Int64} : (a6 26, cM6 G a6 26) = (adW a6 a7 q 26, cel G (V0 a6 a7 q) s0 lo 26) := congrArg (Prod.mk (a6 26)) (w_I (k := 26) (n := 6) ⟨(Nat.le_of_ble_eq_true rfl), rfl⟩ rfl)
theorem w0_27 {G : gG} {a6 a7 : Nat → Nat} {q : Nat} {lo : Nat → Int64} : (a6 27, cM6 G a6 27) = (adW a6 a7 q 27, cel G (V0 a6 a7 q) s0 lo 27) := congrArg (Prod.mk (a6 27)) (w_I (k := 27) (n := 6) ⟨(Nat.le_of_ble_eq_true rfl), rfl⟩ rfl)
theorem w0_28 {G : gG} {a6 a7 : Nat → Nat} {q : Nat} {lo : Nat → Int64} : (a6 28, cM6 G a6 28) = (adW a6 a7 q 28, cel G (V0 a6 a7 q) s0 lo 28) := congrArg (Prod.mk (a6 28)) (w_O (k := 28) (fl := [some 29, some 30, none]) ⟨(Nat.le_of_ble_eq_true rfl), rfl⟩ (by decide) rfl)
theorem w0_29 {G : gG} {a6 a7 : Nat → Nat} {q : Nat} {lo : Nat → Int64} : (a6 29, cM6 G a6 29) = (adW a6 a7 q 29, cel G (V0 a6 a7 q) s0 lo 29) := congrArg (Prod.mk (a6 29)) (w_I (k := 29) (n := 5) ⟨(Nat.le_of_ble_eq_true rfl), rfl⟩ rfl)
theorem w0_30 {G : gG} {a6 a7 : Nat → Nat} {q : Nat} {lo : Nat → Int64} : (a6 30, cM6 G a6 30) = (adW a6 a7 q 30, cel G (V0 a6 a7 q) s0 lo 30) := congrArg (Prod.mk (a6 30)) (w_I (k := 30) (n := 5) ⟨(Nat.le_of_ble_eq_true rfl), rfl⟩ rfl)
theorem w0_31 {G : gG} {a6 a7 : Nat → Nat} {q : Nat} {lo : Nat → Int64} : (a6 31, cM6 G a6 31) = (adW a6 a7 q 31, cel G (V0 a6 a7 q) s0 lo 31) := congrArg (Prod.mk (a6 31)) (w_O (k := 31) (fl := [none, none, none, none, none, some 32, some 33, some 36]) ⟨(Nat.le_of_ble_eq_true rfl), rfl⟩ (by decide) rfl)
theorem w0_32 {G : gG} {a6 a7 : Nat → Nat} {q : Nat} {lo : Nat → Int64} : (a6 32, cM6 G a6 32) = (adW a6 a7 q 32, cel G (V0 a6 a7 q) s0 lo 32) := congrArg (Prod.mk (a6 32)) (w_I (k := 32) (n := 3) ⟨(Nat.le_of_ble_eq_true rfl), rfl⟩ rfl)
theorem w0_33 {G : gG} {a6 a7 : Nat → Nat} {q : Nat} {lo : Nat → Int64} : (a6 33, cM6 G a6 33) = (adW a6 a7 q 33, cel G (V0 a6 a7 q) s0 lo 33) := congrArg (Prod.mk (a6 33)) (w_O (k := 33) (fl := [some 34, some 35, none]) ⟨(Nat.le_of_ble_eq_true rfl), rfl⟩ (by decide) rfl)
theorem w0_34 {G : gG} {a6 a7 : Nat → Nat} {q : Nat} {lo : Nat → Int64} : (a6 34, cM6 G a6 34) = (adW a6 a7 q 34, cel G (V0 a6 a7 q) s0 lo 34) := congrArg (Prod.mk (a6 34)) (w_I (k := 34) (n := 6) ⟨(Nat.le_of_ble_eq_true rfl), rfl⟩ rfl)
theorem w0_35 {G : gG} {a6 a7 : Nat → Nat} {q : Nat} {lo : Nat → Int64} : (a6 35, cM6 G a6 35) = (adW a6 a7 q 35, cel G (V0 a6 a7 q) s0 lo 35) := congrArg (Prod.mk (a6 35)) (w_I (k := 35) (n := 6) ⟨(Nat.le_of_ble_eq_true rfl), rfl⟩ rfl)
theorem w0_36 {G : gG} {a6 a7 : Nat → Nat} {q : Nat} {lo : Nat → Int64} : (a6 36, cM6 G a6 36) = (adW a6 a7 q 36, cel G (V0 a6 a7 q) s0 lo 36) := congrArg (Prod.mk (a6 36)) (w_O (k := 36) (fl := [some 37, some 38, none]) ⟨(Nat.le_of_ble_eq_true rfl), rfl⟩ (by decide) rfl)
theorem w0_37 {G : gG} {a6 a7 : Nat → Nat} {q : Nat} {lo : Nat → Int64} : (a6 37, cM6 G a6 37) = (adW a6 a7 q 37, cel G (V0 a6 a7 q) s0 lo 37) := congrArg (Prod.mk (a6 37)) (w_I (k := 37) (n := 5) ⟨(Nat.le_of_ble_eq_true rfl), rfl⟩ rfl)
theorem w0_38 {G : gG} {a6 a7 : Nat → Nat} {q : Nat} {lo : Nat → Int64} : (a6 38, cM6 G a6 38) = (adW a6 a7 q 38, cel G (V0 a6 a7 q) s0 lo 38) := congrArg (Prod.mk (a6 38)) (w_I (k := 38) (n := 5) ⟨(Nat.le_of_ble_eq_true rfl), rfl⟩ rfl)
theorem w0_39 {G : gG} {a6 a7 : Nat → Nat} {q : Nat} {lo : Nat → Int64} : (a6 39, cM6 G a6 39) = (adW a6 a7 q 39, cel G (V0 a6 a7 q) s0 lo 39) := congrArg (Prod.mk (a6 39)) (w_O (k := 39) (fl := [none, none, none, none, none, some 40, some 41, some 44]) ⟨(Nat.le_of_ble_eq_true rfl), rfl⟩ (by decide) rfl)
theorem w0_40 {G : gG} {a6 a7 : Nat → Nat} {q : Nat} {lo : Nat → Int64} : (a6 40, cM6 G a6 40) = (adW a6 a7 q 40, cel G (V0 a6 a7 q) s0 lo 40) := congrArg (Prod.mk (a6 40)) (w_I (k := 40) (n := 3) ⟨(Nat.le_of_ble_eq_true rfl), rfl⟩ rfl)
theorem w0_41 {G : gG} {a6 a7 : Nat → Nat} {q : Nat} {lo : Nat → Int64} : (a6 41, cM6 G a6 41) = (adW a6 a7 q 41, cel G (V0 a6 a7 q) s0 lo 41) := congrArg (Prod.mk (a6 41)) (w_O (k := 41) (fl := [some 42, some 43, none]) ⟨(Nat.le_of_ble_eq_true rfl), rfl⟩ (by decide) rfl)
theorem w0_42 {G : gG} {a6 a7 : Nat → Nat} {q : Nat} {lo : Nat → Int64} : (a6 42, cM6 G a6 42) = (adW a6 a7 q 42, cel G (V0 a6 a7 q) s0 lo 42) := congrArg (Prod.mk (a6 42)) (w_I (k := 42) (n := 6) ⟨(Nat.le_of_ble_eq_true rfl), rfl⟩ rfl)
theorem w0_43 {G : gG} {a6 a7 : Nat → Nat} {q : Nat} {lo : Nat → Int64} : (a6 43, cM6 G a6 43) = (adW a6 a7 q 43, cel G (V0 a6 a7 q) s0 lo 43) := congrArg (Prod.mk (a6 43)) (w_I (k := 43) (n := 6) ⟨(Nat.le_of_ble_eq_true rfl), rfl⟩ rfl)
theorem w0_44 {G : gG} {a6 a7 : Nat → Nat} {q : Nat} {lo : Nat → Int64} : (a6 44, cM6 G a6 44) = (adW a6 a7 q 44, cel G (V0 a6 a7 q) s0 lo 44) := congrArg (Prod.mk (a6 44)) (w_O (k := 44) (fl := [some 45, some 46, none]) ⟨(Nat.le_of_ble_eq_true rfl), rfl⟩ (by decide) rfl)
theorem w0_45 {G : gG} {a6 a7 : Nat → Nat} {q : Nat} {lo : Nat → Int64} : (a6 45, cM6 G a6 45) = (adW a6 a7 q 45, cel G (V0 a6 a7 q) s0 lo 45) := congrArg (Prod.mk (a6 45)) (w_I (k := 45) (n := 5) ⟨(Nat.le_of_ble_eq_true rfl), rfl⟩ rfl)
theorem w0_46 {G : gG} {a6 a7 : Nat → Nat} {q : Nat} {lo : Nat → Int64} : (a6 46, cM6 G a6 46) = (adW a6 a7 q 46, cel G (V0 a6 a7 q) s0 lo 46) := congrArg (Prod.mk (a6 46)) (w_I (k := 46) (n := 5) ⟨(Nat.le_of_ble_eq_true rfl), rfl⟩ rfl)
theorem w0_47 {G : gG} {a6 a7 : Nat → Nat} {q : Nat} {lo : Nat → Int64} : (a7 0, cM7 G a7 0) = (adW a6 a7 q 47, cel G (V0 a6 a7 q) s0 lo 47) := congrArg (Prod.mk (a7 0)) (w_O (k := 47) (fl := [none, none, none, none, some 48, some 49, some 50, some 51, some 52, some 53, some 54, some 55, some 56, some 57, some 58, some 59, some 60, some 61, some 62]) ⟨(Nat.le_of_ble_eq_true rfl), rfl⟩ (by decide) rfl)
theorem w0_48 {G : gG} {a6 a7 : Nat → Nat} {q : Nat} {lo : Nat → Int64} : (a7 1, cM7 G a7 1) = (adW a6 a7 q 48, cel G (V0 a6 a7 q) s0 lo 48) := congrArg (Prod.mk (a7 1)) (w_I (k := 48) (n := 100) ⟨(Nat.le_of_ble_eq_true rfl), rfl⟩ rfl)
theorem w0_49 {G : gG} {a6 a7 : Nat → Nat} {q : Nat} {lo : Nat → Int64} : (a7 2, cM7 G a7 2) = (adW a6 a7 q 49, cel G (V0 a6 a7 q) s0 lo 49) := congrArg (Prod.mk (a7 2)) (w_I (k := 49) (n := 9) ⟨(Nat.le_of_ble_eq_true rfl), rfl⟩ rfl)
theorem w0_50 {G : gG} {a6 a7 : Nat → Nat} {q : Nat} {lo : Nat → Int64} : (a7 3, cM7 G a7 3) = (adW a6 a7 q 50, cel G (V0 a6 a7 q) s0 lo 50) := congrArg (Prod.mk (a7 3)) (w_I (k := 50) (n := 4) ⟨(Nat.le_of_ble_eq_true rfl), rfl⟩ rfl)
theorem w0_51 {G : gG} {a6 a7 : Nat → Nat} {q : Nat} {lo : Nat → Int64} : (a7 4, cM7 G a7 4) = (adW a6 a7 q 51, cel G (V0 a6 a7 q) s0 lo 51) := congrArg (Prod.mk (a7 4)) (w_I (k := 51) (n := 4) ⟨(Nat.le_of_ble_eq_true rfl), rfl⟩ rfl)
theorem w0_52 {G : gG} {a6 a7 : Nat → Nat} {q : Nat} {lo : Nat → Int64} : (a7 5, cM7 G a7 5) = (adW a6 a7 q 52, cel G (V0 a6 a7 q) s0 lo 52) := congrArg (Prod.mk (a7 5)) (w_I (k := 52) (n := 4) ⟨(Nat.le_of_ble_eq_true rfl), rfl⟩ rfl)
theorem w0_53 {G : gG} {a6 a7 : Nat → Nat} {q : Nat} {lo : Nat → Int64} : (a7 6, cM7 G a7 6) = (adW a6 a7 q 53, cel G (V0 a6 a7 q) s0 lo 53) := congrArg (Prod.mk (a7 6)) (w_I (k := 53) (n := 4) ⟨(Nat.le_of_ble_eq_true rfl), rfl⟩ rfl)
theorem w0_54 {G : gG} {a6 a7 : Nat → Nat} {q : Nat} {lo : Nat → Int64} : (a7 7, cM7 G a7 7) = (adW a6 a7 q 54, cel G (V0 a6 a7 q) s0 lo 54) := congrArg (Prod.mk (a7 7)) (w_I (k := 54) (n := 12) ⟨(Nat.le_of_ble_eq_true rfl), rfl⟩ rfl)
theorem w0_55 {G : gG} {a6 a7 : Nat → Nat} {q : Nat} {lo : Nat → Int64} : (a7 8, cM7 G a7 8) = (adW a6 a7 q 55, cel G (V0 a6 a7 q) s0 lo 55) := congrArg (Prod.mk (a7 8)) (w_Z (k := 55) (n := 4) ⟨(Nat.le_of_ble_eq_true rfl), rfl⟩ rfl)
theorem w0_56 {G : gG} {a6 a7 : Nat → Nat} {q : Nat} {lo : Nat → Int64} : (a7 9, cM7 G a7 9) = (adW a6 a7 q 56, cel G (V0 a6 a7 q) s0 lo 56) := congrArg (Prod.mk (a7 9)) (w_I (k := 56) (n := 4) ⟨(Nat.le_of_ble_eq_true rfl), rfl⟩ rfl)
theorem w0_57 {G : gG} {a6 a7 : Nat → Nat} {q : Nat} {lo : Nat → Int64} : (a7 10, cM7 G a7 10) = (adW a6 a7 q 57, cel G (V0 a6 a7 q) s0 lo 57) := congrArg (Prod.mk (a7 10)) (w_I (k := 57) (n := 24) ⟨(Nat.le_of_ble_eq_true rfl), rfl⟩ rfl)
theorem w0_58 {G : gG} {a6 a7 : Nat → Nat} {q : Nat} {lo : Nat → Int64} : (a7 11, cM7 G a7 11) = (adW a6 a7 q 58, cel G (V0 a6 a7 q) s0 lo 58) := congrArg (Prod.mk (a7 11)) (w_I (k := 58) (n := 4) ⟨(Nat.le_of_ble_eq_true rfl), rfl⟩ rfl)
theorem w0_59 {G : gG} {a6 a7 : Nat → Nat} {q : Nat} {lo : Nat → Int64} : (a7 12, cM7 G a7 12) = (adW a6 a7 q 59, cel G (V0 a6 a7 q) s0 lo 59) := congrArg (Prod.mk (a7 12)) (w_I (k := 59) (n := 20) ⟨(Nat.le_of_ble_eq_true rfl), rfl⟩ rfl)
theorem w0_60 {G : gG} {a6 a7 : Nat → Nat} {q : Nat} {lo : Nat → Int64} : (a7 13, cM7 G a7 13) = (adW a6 a7 q 60, cel G (V0 a6 a7 q) s0 lo 60) := congrArg (Prod.mk (a7 13)) (w_I (k := 60) (n := 2) ⟨(Nat.le_of_ble_eq_true rfl), rfl⟩ rfl)
theorem w0_61 {G : gG} {a6 a7 : Nat → Nat} {q : Nat} {lo : Nat → Int64} : (a7 14, cM7 G a7 14) = (adW a6 a7 q 61, cel G (V0 a6 a7 q) s0 lo 61) := congrArg (Prod.mk (a7 14)) (w_I (k := 61) (n := 2) ⟨(Nat.le_of_ble_eq_true rfl), rfl⟩ rfl)
theorem w0_62 {G : gG} {a6 a7 : Nat → Nat} {q : Nat} {lo : Nat → Int64} : (a7 15, cM7 G a7 15) = (adW a6 a7 q 62, cel G (V0 a6 a7 q) s0 lo 62) := congrArg (Prod.mk (a7 15)) (w_I (k := 62) (n := 10) ⟨(Nat.le_of_ble_eq_true rfl), rfl⟩ rfl)
set_option maxRecDepth 100000 in
set_option maxHeartbeats 4000000 in
theorem world_0 {G : gG} {a6 a7 : Nat → Nat} {q : Nat} {f6 f7 : Nat → Nat × va_E} (h6 : ∀ k, k < 47 → f6 k = (a6 k, cM6 G a6 k)) (h7 : ∀ k, k < 16 → f7 k = (a7 k, cM7 G a7 k)) : (tab 47 f6 ++ tab 16 f7) ++ [(q, .inl (gcy G 3, 1, .inr (.inl (fun _ => 0))))] = wS G (V0 a6 a7 q) s0 (fun _ => 0) := by
  rw [tab_tab (n' := 63) rfl, tab_app (n' := 64) rfl]
  show _ = tab 64 (fun k => (adW a6 a7 q k, cel G (V0 a6 a7 q) s0 (fun _ => 0) k))
  apply tab_ext
  have g0 : ∀ k, k < 0 → (va_up (fun k => if k < 47 then f6 k else f7 (k - 47)) 63 (q, (.inl (gcy G 3, 1, .inr (.inl (fun _ => 0))) : va_E))) k = (adW a6 a7 q k, cel G (V0 a6 a7 q) s0 (fun _ => 0) k) := all_0
  have g1 := all_s (n' := 1) rfl g0 ((h6 0 (Nat.le_of_ble_eq_true rfl)).trans w0_0)
  have g2 := all_s (n' := 2) rfl g1 ((h6 1 (Nat.le_of_ble_eq_true rfl)).trans w0_1)
  have g3 := all_s (n' := 3) rfl g2 ((h6 2 (Nat.le_of_ble_eq_true rfl)).trans w0_2)
  have g4 := all_s (n' := 4) rfl g3 ((h6 3 (Nat.le_of_ble_eq_true rfl)).trans w0_3)
  have g5 := all_s (n' := 5) rfl g4 ((h6 4 (Nat.le_of_ble_eq_true rfl)).trans w0_4)
  have g6 := all_s (n' := 6) rfl g5 ((h6 5 (Nat.le_of_ble_eq_true rfl)).trans w0_5)
  have g7 := all_s (n' := 7) rfl g6 ((h6 6 (Nat.le_of_ble_eq_true rfl)).trans w0_6)
  have g8 := all_s (n' := 8) rfl g7 ((h6 7 (Nat.le_of_ble_eq_true rfl)).trans w0_7)
  have g9 := all_s (n' := 9) rfl g8 ((h6 8 (Nat.le_of_ble_eq_true rfl)).trans w0_8)
  have g10 := all_s (n' := 10) rfl g9 ((h6 9 (Nat.le_of_ble_eq_true rfl)).trans w0_9)
  have g11 := all_s (n' := 11) rfl g10 ((h6 10 (Nat.le_of_ble_eq_true rfl)).trans w0_10)
  have g12 := all_s (n' := 12) rfl g11 ((h6 11 (Nat.le_of_ble_eq_true rfl)).trans w0_11)
  have g13 := all_s (n' := 13) rfl g12 ((h6 12 (Nat.le_of_ble_eq_true rfl)).trans w0_12)
  have g14 := all_s (n' := 14) rfl g13 ((h6 13 (Nat.le_of_ble_eq_true rfl)).trans w0_13)
  have g15 := all_s (n' := 15) rfl g14 ((h6 14 (Nat.le_of_ble_eq_true rfl)).trans w0_14)
  have g16 := all_s (n' := 16) rfl g15 ((h6 15 (Nat.le_of_ble_eq_true rfl)).trans w0_15)
  have g17 := all_s (n' := 17) rfl g16 ((h6 16 (Nat.le_of_ble_eq_true rfl)).trans w0_16)
  have g18 := all_s (n' := 18) rfl g17 ((h6 17 (Nat.le_of_ble_eq_true rfl)).trans w0_17)
  have g19 := all_s (n' := 19) rfl g18 ((h6 18 (Nat.le_of_ble_eq_true rfl)).trans w0_18)
  have g20 := all_s (n' := 20) rfl g19 ((h6 19 (Nat.le_of_ble_eq_true rfl)).trans w0_19)
  have g21 := all_s (n' := 21) rfl g20 ((h6 20 (Nat.le_of_ble_eq_true rfl)).trans w0_20)
  have g22 := all_s (n' := 22) rfl g21 ((h6 21 (Nat.le_of_ble_eq_true rfl)).trans w0_21)
  have g23 := all_s (n' := 23) rfl g22 ((h6 22 (Nat.le_of_ble_eq_true rfl)).trans w0_22)
  have g24 := all_s (n' := 24) rfl g23 ((h6 23 (Nat.le_of_ble_eq_true rfl)).trans w0_23)
  have g25 := all_s (n' := 25) rfl g24 ((h6 24 (Nat.le_of_ble_eq_true rfl)).trans w0_24)
  have g26 := all_s (n' := 26) rfl g25 ((h6 25 (Nat.le_of_ble_eq_true rfl)).trans w0_25)
  have g27 := all_s (n' := 27) rfl g26 ((h6 26 (Nat.le_of_ble_eq_true rfl)).trans w0_26)
  have g28 := all_s (n' := 28) rfl g27 ((h6 27 (Nat.le_of_ble_eq_true rfl)).trans w0_27)
  have g29 := all_s (n' := 29) rfl g28 ((h6 28 (Nat.le_of_ble_eq_true rfl)).trans w0_28)
  have g30 := all_s (n' := 30) rfl g29 ((h6 29 (Nat.le_of_ble_eq_true rfl)).trans w0_29)
  have g31 := all_s (n' := 31) rfl g30 ((h6 30 (Nat.le_of_ble_eq_true rfl)).trans w0_30)
  have g32 := all_s (n' := 32) rfl g31 ((h6 31 (Nat.le_of_ble_eq_true rfl)).trans w0_31)
  have g33 := all_s (n' := 33) rfl g32 ((h6 32 (Nat.le_of_ble_eq_true rfl)).trans w0_32)
  have g34 := all_s (n' := 34) rfl g33 ((h6 33 (Nat.le_of_ble_eq_true rfl)).trans w0_33)
  have g35 := all_s (n' := 35) rfl g34 ((h6 34 (Nat.le_of_ble_eq_true rfl)).trans w0_34)
  have g36 := all_s (n' := 36) rfl g35 ((h6 35 (Nat.le_of_ble_eq_true rfl)).trans w0_35)
  have g37 := all_s (n' := 37) rfl g36 ((h6 36 (Nat.le_of_ble_eq_true rfl)).trans w0_36)
  have g38 := all_s (n' := 38) rfl g37 ((h6 37 (Nat.le_of_ble_eq_true rfl)).trans w0_37)
  have g39 := all_s (n' := 39) rfl g38 ((h6 38 (Nat.le_of_ble_eq_true rfl)).trans w0_38)
  have g40 := all_s (n' := 40) rfl g39 ((h6 39 (Nat.le_of_ble_eq_true rfl)).trans w0_39)
  have g41 := all_s (n' := 41) rfl g40 ((h6 40 (Nat.le_of_ble_eq_true rfl)).trans w0_40)
  have g42 := all_s (n' := 42) rfl g41 ((h6 41 (Nat.le_of_ble_eq_true rfl)).trans w0_41)
  have g43 := all_s (n' := 43) rfl g42 ((h6 42 (Nat.le_of_ble_eq_true rfl)).trans w0_42)
  have g44 := all_s (n' := 44) rfl g43 ((h6 43 (Nat.le_of_ble_eq_true rfl)).trans w0_43)
  have g45 := all_s (n' := 45) rfl g44 ((h6 44 (Nat.le_of_ble_eq_true rfl)).trans w0_44)
  have g46 := all_s (n' := 46) rfl g45 ((h6 45 (Nat.le_of_ble_eq_true rfl)).trans w0_45)
  have g47 := all_s (n' := 47) rfl g46 ((h6 46 (Nat.le_of_ble_eq_true rfl)).trans w0_46)
  have g48 := all_s (n' := 48) rfl g47 ((h7 0 (Nat.le_of_ble_eq_true rfl)).trans w0_47)
  have g49 := all_s (n' := 49) rfl g48 ((h7 1 (Nat.le_of_ble_eq_true rfl)).trans w0_48)
  have g50 := all_s (n' := 50) rfl g49 ((h7 2 (Nat.le_of_ble_eq_true rfl)).trans w0_49)
  have g51 := all_s (n' := 51) rfl g50 ((h7 3 (Nat.le_of_ble_eq_true rfl)).trans w0_50)
  have g52 := all_s (n' := 52) rfl g51 ((h7 4 (Nat.le_of_ble_eq_true rfl)).trans w0_51)
  have g53 := all_s (n' := 53) rfl g52 ((h7 5 (Nat.le_of_ble_eq_true rfl)).trans w0_52)
  have g54 := all_s (n' := 54) rfl g53 ((h7 6 (Nat.le_of_ble_eq_true rfl)).trans w0_53)
  have g55 := all_s (n' := 55) rfl g54 ((h7 7 (Nat.le_of_ble_eq_true rfl)).trans w0_54)
  have g56 := all_s (n' := 56) rfl g55 ((h7 8 (Nat.le_of_ble_eq_true rfl)).trans w0_55)
  have g57 := all_s (n' := 57) rfl g56 ((h7 9 (Nat.le_of_ble_eq_true rfl)).trans w0_56)
  have g58 := all_s (n' := 58) rfl g57 ((h7 10 (Nat.le_of_ble_eq_true rfl)).trans w0_57)
  have g59 := all_s (n' := 59) rfl g58 ((h7 11 (Nat.le_of_ble_eq_true rfl)).trans w0_58)
  have g60 := all_s (n' := 60) rfl g59 ((h7 12 (Nat.le_of_ble_eq_true rfl)).trans w0_59)
  have g61 := all_s (n' := 61) rfl g60 ((h7 13 (Nat.le_of_ble_eq_true rfl)).trans w0_60)
  have g62 := all_s (n' := 62) rfl g61 ((h7 14 (Nat.le_of_ble_eq_true rfl)).trans w0_61)
  have g63 := all_s (n' := 63) rfl g62 ((h7 15 (Nat.le_of_ble_eq_true rfl)).trans w0_62)
  have g64 := all_s (n' := 64) rfl g63 (congrArg (Prod.mk q) (w_J (k := 63) (n := 1) ⟨(Nat.le_of_ble_eq_true rfl), rfl⟩))
  exact g64
theorem hall_0 {a6 a7 : Nat → Nat} {q : Nat} : hallAt (V0 a6 a7 q) 0 := by
  refine ⟨⟨Nat.le_of_ble_eq_true rfl, rfl⟩, ⟨Nat.le_of_ble_eq_true rfl, rfl⟩, ⟨Nat.le_of_ble_eq_true rfl, rfl⟩, ⟨Nat.le_of_ble_eq_true rfl, rfl⟩, ⟨Nat.le_of_ble_eq_true rfl, rfl⟩, ⟨Nat.le_of_ble_eq_true rfl, rfl⟩, ⟨⟨Nat.le_of_ble_eq_true rfl, rfl⟩, ⟨⟨Nat.le_of_ble_eq_true rfl, rfl⟩, ⟨Nat.le_of_ble_eq_true rfl, rfl⟩, ⟨Nat.le_of_ble_eq_true rfl, rfl⟩⟩, ⟨⟨Nat.le_of_ble_eq_true rfl, rfl⟩, ⟨Nat.le_of_ble_eq_true rfl, rfl⟩, ⟨Nat.le_of_ble_eq_true rfl, rfl⟩⟩, ⟨Nat.le_of_ble_eq_true rfl, rfl⟩, ⟨Nat.le_of_ble_eq_true rfl, rfl⟩⟩, ?_⟩
  intro p hp
  rcases p with _ | _ | _ | _ | p
  iterate 4 exact ⟨⟨Nat.le_of_ble_eq_true rfl, rfl⟩, ⟨Nat.le_of_ble_eq_true rfl, rfl⟩, ⟨⟨Nat.le_of_ble_eq_true rfl, rfl⟩, ⟨Nat.le_of_ble_eq_true rfl, rfl⟩, ⟨Nat.le_of_ble_eq_true rfl, rfl⟩⟩, ⟨⟨Nat.le_of_ble_eq_true rfl, rfl⟩, ⟨Nat.le_of_ble_eq_true rfl, rfl⟩, ⟨Nat.le_of_ble_eq_true rfl, rfl⟩⟩⟩
  exact absurd hp (by omega)
theorem mod_0 {a6 a7 : Nat → Nat} {q : Nat} : modAt (V0 a6 a7 q) 47 :=
  ⟨⟨Nat.le_of_ble_eq_true rfl, rfl⟩, ⟨Nat.le_of_ble_eq_true rfl, rfl⟩, ⟨Nat.le_of_ble_eq_true rfl, rfl⟩, ⟨Nat.le_of_ble_eq_true rfl, rfl⟩, ⟨Nat.le_of_ble_eq_true rfl, rfl⟩, ⟨Nat.le_of_ble_eq_true rfl, rfl⟩, ⟨Nat.le_of_ble_eq_true rfl, rfl⟩, ⟨Nat.le_of_ble_eq_true rfl, rfl⟩, ⟨Nat.le_of_ble_eq_true rfl, rfl⟩, ⟨Nat.le_of_ble_eq_true rfl, rfl⟩, ⟨Nat.le_of_ble_eq_true rfl, rfl⟩, ⟨Nat.le_of_ble_eq_true rfl, rfl⟩, ⟨Nat.le_of_ble_eq_true rfl, rfl⟩, ⟨Nat.le_of_ble_eq_true rfl, rfl⟩, ⟨Nat.le_of_ble_eq_true rfl, rfl⟩, ⟨Nat.le_of_ble_eq_true rfl, rfl⟩⟩
theorem out_0 {a6 a7 : Nat → Nat} {q : Nat} : shAt (V0 a6 a7 q) 63 (11, 1, []) := ⟨Nat.le_of_ble_eq_true rfl, rfl⟩
theorem one_0 {a6 a7 : Nat → Nat} {q : Nat} : ∀ k, ((V0 a6 a7 q).1 k).1 = 11 → k = 63 := by
  intro k hk
  have hk : (sh0 k).1 = 11 := hk
  by_cases h : k < 64
  · have key : ∀ k, k < 64 → (sh0 k).1 = 11 → k = 63 := by decide +kernel
    exact key k h hk
  · have e : sh0 k = (0, 0, []) := by
      unfold sh0
      rw [List.getD_eq_getElem?_getD, List.getElem?_eq_none (by show shL.length ≤ k; have : shL.length = 64 := by decide +kernel
                                                                omega)]
      rfl
    rw [e] at hk
    exact absurd hk (by decide)
def pl0 : plT := (10, 1, 20, 0, false, fun _ => none, [], [])
def h0 : hT := ([], fun _ => 9, fun _ => pl0, 0)
theorem s0_hall : hallIs s0 0 h0 := by
  refine ⟨⟨0, by decide, by decide +kernel, by decide +kernel, by decide, fun i hi => absurd hi (Nat.not_lt_zero i)⟩, ?_, ?_, by decide +kernel⟩
  · have key : ∀ k, k < 9 → s0 (0 + 2 + 1) k = nI 9 := by decide +kernel
    exact key
  · have key : ∀ p, p < 4 → s0 (0 + 15 + 8 * p) 0 = nI 10 ∧ s0 (0 + 15 + 8 * p) 1 = nI 1 ∧ s0 (0 + 15 + 8 * p) 2 = nI 20 ∧ s0 (0 + 15 + 8 * p) 3 = 0 ∧ s0 (0 + 15 + 8 * p) 4 = bI false ∧ (∀ j, j < 3 → s0 (0 + 15 + 8 * p + 1) j = shI none) ∧ s0 (0 + 15 + 8 * p + 2) 2 = nI 0 ∧ s0 (0 + 15 + 8 * p + 5) 2 = nI 0 := by decide +kernel
    intro p hp
    obtain ⟨k0, k1, k2, k3, k4, k5, k6, k7⟩ := key p hp
    exact ⟨k0, k1, k2, k3, k4, k5, ⟨k6, fun i hi => absurd hi (Nat.not_lt_zero i)⟩, ⟨k7, fun i hi => absurd hi (Nat.not_lt_zero i)⟩⟩
theorem s0_mod : modIs s0 47 h0 := by
  refine ⟨by decide +kernel, ⟨0, by decide, by decide +kernel, by decide +kernel, by decide, fun i hi => absurd hi (Nat.not_lt_zero i)⟩, ?_, ?_⟩
  · have key : ∀ k, k < 9 → s0 (47 + 2) k = nI 9 := by decide +kernel
    exact key
  · have key : ∀ p, p < 4 → s0 (47 + 3) p = nI 10 ∧ s0 (47 + 4) p = nI 1 ∧ s0 (47 + 5) p = nI 20 ∧ s0 (47 + 6) p = 0 ∧ s0 (47 + 8) p = bI false ∧ (∀ j, j < 3 → s0 (47 + 7) (3 * p + j) = shI none) ∧ s0 (47 + 11) p = nI 0 ∧ s0 (47 + 9) p = nI 0 := by decide +kernel
    intro p hp
    obtain ⟨k0, k1, k2, k3, k4, k5, k6, k7⟩ := key p hp
    exact ⟨k0, k1, k2, k3, k4, k5, ⟨k6, fun i hi => absurd hi (Nat.not_lt_zero i)⟩, ⟨k7, fun i hi => absurd hi (Nat.not_lt_zero i)⟩⟩
theorem h0_pl : plOk pl0 := ⟨by decide, by decide, by decide, by decide, fun j _ k hk => absurd (show (none : Option Nat) = some k from hk) (by simp), fun i hi => absurd hi (Nat.not_lt_zero i), fun i hi => absurd hi (Nat.not_lt_zero i), by decide, by decide⟩
theorem h0_ok : hallOk 9 h0 :=
  ⟨fun x hx => absurd hx List.not_mem_nil, fun k _ => Nat.le_refl 9, fun p _ => h0_pl, by decide⟩
