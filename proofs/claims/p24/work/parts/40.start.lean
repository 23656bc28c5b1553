/-! the world at the loop of the law: halls at 0 and at 47 (by program) -/
def shL : List shT := (6, 0, [some 1, some 2, some 4, some 6, none]) :: (10, 4, [some 15, some 23, some 31, some 39]) :: (3, 0, [some 3]) :: (8, 9, []) :: (1, 0, [some 5, none, none]) :: (8, 100, []) :: (0, 0, [some 7, some 10, some 13, some 14, none]) :: (4, 0, [some 8, some 9, none, none]) :: (8, 5, []) :: (8, 5, []) :: (4, 0, [some 11, some 12, none, none]) :: (8, 5, []) :: (8, 5, []) :: (8, 60, []) :: (8, 60, []) :: (2, 0, [none, none, none, none, none, some 16, some 17, some 20]) :: (8, 3, []) :: (5, 0, [some 18, some 19, none]) :: (8, 6, []) :: (8, 6, []) :: (5, 0, [some 21, some 22, none]) :: (8, 5, []) :: (8, 5, []) :: (2, 0, [none, none, none, none, none, some 24, some 25, some 28]) :: (8, 3, []) :: (5, 0, [some 26, some 27, none]) :: (8, 6, []) :: (8, 6, []) :: (5, 0, [some 29, some 30, none]) :: (8, 5, []) :: (8, 5, []) :: (2, 0, [none, none, none, none, none, some 32, some 33, some 36]) :: (8, 3, []) :: (5, 0, [some 34, some 35, none]) :: (8, 6, []) :: (8, 6, []) :: (5, 0, [some 37, some 38, none]) :: (8, 5, []) :: (8, 5, []) :: (2, 0, [none, none, none, none, none, some 40, some 41, some 44]) :: (8, 3, []) :: (5, 0, [some 42, some 43, none]) :: (8, 6, []) :: (8, 6, []) :: (5, 0, [some 45, some 46, none]) :: (8, 5, []) :: (8, 5, []) :: (6, 0, [some 48, some 49, some 51, some 53, none]) :: (10, 4, [some 62, some 70, some 78, some 86]) :: (3, 0, [some 50]) :: (8, 9, []) :: (1, 0, [some 52, none, none]) :: (8, 100, []) :: (0, 0, [some 54, some 57, some 60, some 61, none]) :: (4, 0, [some 55, some 56, none, none]) :: (8, 5, []) :: (8, 5, []) :: (4, 0, [some 58, some 59, none, none]) :: (8, 5, []) :: (8, 5, []) :: (8, 60, []) :: (8, 60, []) :: (2, 0, [none, none, none, none, none, some 63, some 64, some 67]) :: (8, 3, []) :: (5, 0, [some 65, some 66, none]) :: (8, 6, []) :: (8, 6, []) :: (5, 0, [some 68, some 69, none]) :: (8, 5, []) :: (8, 5, []) :: (2, 0, [none, none, none, none, none, some 71, some 72, some 75]) :: (8, 3, []) :: (5, 0, [some 73, some 74, none]) :: (8, 6, []) :: (8, 6, []) :: (5, 0, [some 76, some 77, none]) :: (8, 5, []) :: (8, 5, []) :: (2, 0, [none, none, none, none, none, some 79, some 80, some 83]) :: (8, 3, []) :: (5, 0, [some 81, some 82, none]) :: (8, 6, []) :: (8, 6, []) :: (5, 0, [some 84, some 85, none]) :: (8, 5, []) :: (8, 5, []) :: (2, 0, [none, none, none, none, none, some 87, some 88, some 91]) :: (8, 3, []) :: (5, 0, [some 89, some 90, none]) :: (8, 6, []) :: (8, 6, []) :: (5, 0, [some 92, some 93, none]) :: (8, 5, []) :: (8, 5, []) :: []
def sh0 (k : Nat) : shT := shL.getD k (0, 0, [])
def s0 (k : Nat) : Nat → Int32 := ((fun j => ([0, 0, 0, 0, 0] : List Int32).getD j 0) :: (fun _ => 0) :: (fun _ => 0) :: (upd (upd (upd (upd (upd (upd (upd (upd (upd (fun _ => 0) 0 (nI 9)) 1 (nI 9)) 2 (nI 9)) 3 (nI 9)) 4 (nI 9)) 5 (nI 9)) 6 (nI 9)) 7 (nI 9)) 8 (nI 9)) :: (fun j => ([0, 0, 0] : List Int32).getD j 0) :: (fun _ => 0) :: (fun j => ([0, 0, 0, 0, 0] : List Int32).getD j 0) :: (fun j => ([0, 0, 0, 0] : List Int32).getD j 0) :: (fun _ => 0) :: (fun _ => 0) :: (fun j => ([0, 0, 0, 0] : List Int32).getD j 0) :: (fun _ => 0) :: (fun _ => 0) :: (fun _ => 0) :: (fun _ => 0) :: (fun j => ([(nI 10), (nI 1), (nI 20), 0, 0, 0, 0, 0] : List Int32).getD j 0) :: (upd (upd (upd (fun _ => 0) 0 (-1)) 1 (-1)) 2 (-1)) :: (fun j => ([0, 0, 0] : List Int32).getD j 0) :: (fun _ => 0) :: (fun _ => 0) :: (fun j => ([0, 0, 0] : List Int32).getD j 0) :: (fun _ => 0) :: (fun _ => 0) :: (fun j => ([(nI 10), (nI 1), (nI 20), 0, 0, 0, 0, 0] : List Int32).getD j 0) :: (upd (upd (upd (fun _ => 0) 0 (-1)) 1 (-1)) 2 (-1)) :: (fun j => ([0, 0, 0] : List Int32).getD j 0) :: (fun _ => 0) :: (fun _ => 0) :: (fun j => ([0, 0, 0] : List Int32).getD j 0) :: (fun _ => 0) :: (fun _ => 0) :: (fun j => ([(nI 10), (nI 1), (nI 20), 0, 0, 0, 0, 0] : List Int32).getD j 0) :: (upd (upd (upd (fun _ => 0) 0 (-1)) 1 (-1)) 2 (-1)) :: (fun j => ([0, 0, 0] : List Int32).getD j 0) :: (fun _ => 0) :: (fun _ => 0) :: (fun j => ([0, 0, 0] : List Int32).getD j 0) :: (fun _ => 0) :: (fun _ => 0) :: (fun j => ([(nI 10), (nI 1), (nI 20), 0, 0, 0, 0, 0] : List Int32).getD j 0) :: (upd (upd (upd (fun _ => 0) 0 (-1)) 1 (-1)) 2 (-1)) :: (fun j => ([0, 0, 0] : List Int32).getD j 0) :: (fun _ => 0) :: (fun _ => 0) :: (fun j => ([0, 0, 0] : List Int32).getD j 0) :: (fun _ => 0) :: (fun _ => 0) :: (fun j => ([0, 0, 0, 0, 0] : List Int32).getD j 0) :: (fun _ => 0) :: (fun _ => 0) :: (upd (upd (upd (upd (upd (upd (upd (upd (upd (fun _ => 0) 0 (nI 9)) 1 (nI 9)) 2 (nI 9)) 3 (nI 9)) 4 (nI 9)) 5 (nI 9)) 6 (nI 9)) 7 (nI 9)) 8 (nI 9)) :: (fun j => ([0, 0, 0] : List Int32).getD j 0) :: (fun _ => 0) :: (fun j => ([0, 0, 0, 0, 0] : List Int32).getD j 0) :: (fun j => ([0, 0, 0, 0] : List Int32).getD j 0) :: (fun _ => 0) :: (fun _ => 0) :: (fun j => ([0, 0, 0, 0] : List Int32).getD j 0) :: (fun _ => 0) :: (fun _ => 0) :: (fun _ => 0) :: (fun _ => 0) :: (fun j => ([(nI 10), (nI 1), (nI 20), 0, 0, 0, 0, 0] : List Int32).getD j 0) :: (upd (upd (upd (fun _ => 0) 0 (-1)) 1 (-1)) 2 (-1)) :: (fun j => ([0, 0, 0] : List Int32).getD j 0) :: (fun _ => 0) :: (fun _ => 0) :: (fun j => ([0, 0, 0] : List Int32).getD j 0) :: (fun _ => 0) :: (fun _ => 0) :: (fun j => ([(nI 10), (nI 1), (nI 20), 0, 0, 0, 0, 0] : List Int32).getD j 0) :: (upd (upd (upd (fun _ => 0) 0 (-1)) 1 (-1)) 2 (-1)) :: (fun j => ([0, 0, 0] : List Int32).getD j 0) :: (fun _ => 0) :: (fun _ => 0) :: (fun j => ([0, 0, 0] : List Int32).getD j 0) :: (fun _ => 0) :: (fun _ => 0) :: (fun j => ([(nI 10), (nI 1), (nI 20), 0, 0, 0, 0, 0] : List Int32).getD j 0) :: (upd (upd (upd (fun _ => 0) 0 (-1)) 1 (-1)) 2 (-1)) :: (fun j => ([0, 0, 0] : List Int32).getD j 0) :: (fun _ => 0) :: (fun _ => 0) :: (fun j => ([0, 0, 0] : List Int32).getD j 0) :: (fun _ => 0) :: (fun _ => 0) :: (fun j => ([(nI 10), (nI 1), (nI 20), 0, 0, 0, 0, 0] : List Int32).getD j 0) :: (upd (upd (upd (fun _ => 0) 0 (-1)) 1 (-1)) 2 (-1)) :: (fun j => ([0, 0, 0] : List Int32).getD j 0) :: (fun _ => 0) :: (fun _ => 0) :: (fun j => ([0, 0, 0] : List Int32).getD j 0) :: (fun _ => 0) :: (fun _ => 0) :: [] : List (Nat → Int32)).getD k (fun _ => 0)
def adW (a6 a7 : Nat → Nat) (k : Nat) : Nat := if k < 47 then a6 k else a7 (k - 47)
def V0 (a6 a7 : Nat → Nat) : wV := (sh0, 94, adW a6 a7)
theorem tab_tab {n n2 n' : Nat} {f g : Nat → Nat × va_E} (h : n + n2 = n') : tab n f ++ tab n2 g = tab n' (fun k => if k < n then f k else g (k - n)) := by
  rw [tab_cat (n' := n') (l := tab n2 g) (by rw [tab_len]; exact h)]
  apply tab_ext
  intro k hk
  by_cases e : k < n
  · rw [if_pos e, if_pos e]
  · rw [if_neg e, if_neg e, List.getD_eq_getElem?_getD, tab_get (by omega)]
    rfl
def fsL (V : wV) (s : sgT) (k : Nat) : Nat → List (Option Nat) → List Value
  | _, [] => []
  | j, o :: l => fsV V s k j o :: fsL V s k (j + 1) l
theorem fsL_get {V : wV} {s : sgT} {k : Nat} : ∀ (l : List (Option Nat)) (j i : Nat), (fsL V s k j l)[i]? = l[i]?.map (fun o => fsV V s k (j + i) o)
  | [], _, _ => rfl
  | o :: l, j, 0 => rfl
  | o :: l, j, i + 1 => by
    show (fsL V s k (j + 1) l)[i]? = _
    rw [fsL_get l (j + 1) i, show j + 1 + i = j + (i + 1) by omega]
    rfl
theorem fsO_eq {V : wV} {s : sgT} {k : Nat} {fl : List (Option Nat)} : fsO V s k fl = fsL V s k 0 fl := by
  apply List.ext_getElem?
  intro i
  rw [fsL_get, Nat.zero_add]
  unfold fsO
  rw [List.getElem?_mapIdx]
theorem w_O {G : gG} {V : wV} {s : sgT} {lo : Nat → Int64} {k ci len : Nat} {fl : List (Option Nat)} {fs : List Value} (h : shAt V k (ci, len, fl)) (hc : ci < 8) (he : fsL V s k 0 fl = fs) : (.inr (ci, fs) : va_E) = cel G V s lo k := by
  rw [cel_O h hc, fsO_eq, he]
theorem w_I {G : gG} {V : wV} {s : sgT} {lo : Nat → Int64} {k n : Nat} {g : Nat → Int32} (h : shAt V k (8, n, [])) (he : s k = g) : (.inl (gcy G 0, n, .inl g) : va_E) = cel G V s lo k := by
  rw [cel_I h, he]
theorem w0_0 {G : gG} {a6 a7 : Nat → Nat} {lo : Nat → Int64} : (a6 0, cM6 G a6 0) = (adW a6 a7 0, cel G (V0 a6 a7) s0 lo 0) := congrArg (Prod.mk (a6 0)) (w_O (k := 0) (fl := [some 1, some 2, some 4, some 6, none]) ⟨(Nat.le_of_ble_eq_true rfl), rfl⟩ (by decide) rfl)
theorem w0_1 {G : gG} {a6 a7 : Nat → Nat} {lo : Nat → Int64} : (a6 1, cM6 G a6 1) = (adW a6 a7 1, cel G (V0 a6 a7) s0 lo 1) := by
  have e : (va_up (va_up (va_up (va_up (fun _ => none) 0 (some (a6 15))) 1 (some (a6 23))) 2 (some (a6 31))) 3 (some (a6 39)) : Nat → Option Nat) = fun i => (([some 15, some 23, some 31, some 39] : List (Option Nat)).getD i none).map (ad (V0 a6 a7)) := by
    funext i
    rcases i with _ | _ | _ | _ | i
    · rfl
    · rfl
    · rfl
    · rfl
    · simp [va_up]
  refine congrArg (Prod.mk (a6 1)) ?_
  show (.inl (gcy G 1, 4, .inr (.inr (.inr (.inr _)))) : va_E) = _
  rw [cel_P (n := 4) (fl := [some 15, some 23, some 31, some 39]) ⟨(Nat.le_of_ble_eq_true rfl), rfl⟩, ← e]
theorem w0_2 {G : gG} {a6 a7 : Nat → Nat} {lo : Nat → Int64} : (a6 2, cM6 G a6 2) = (adW a6 a7 2, cel G (V0 a6 a7) s0 lo 2) := congrArg (Prod.mk (a6 2)) (w_O (k := 2) (fl := [some 3]) ⟨(Nat.le_of_ble_eq_true rfl), rfl⟩ (by decide) rfl)
theorem w0_3 {G : gG} {a6 a7 : Nat → Nat} {lo : Nat → Int64} : (a6 3, cM6 G a6 3) = (adW a6 a7 3, cel G (V0 a6 a7) s0 lo 3) := congrArg (Prod.mk (a6 3)) (w_I (k := 3) (n := 9) ⟨(Nat.le_of_ble_eq_true rfl), rfl⟩ rfl)
theorem w0_4 {G : gG} {a6 a7 : Nat → Nat} {lo : Nat → Int64} : (a6 4, cM6 G a6 4) = (adW a6 a7 4, cel G (V0 a6 a7) s0 lo 4) := congrArg (Prod.mk (a6 4)) (w_O (k := 4) (fl := [some 5, none, none]) ⟨(Nat.le_of_ble_eq_true rfl), rfl⟩ (by decide) rfl)
theorem w0_5 {G : gG} {a6 a7 : Nat → Nat} {lo : Nat → Int64} : (a6 5, cM6 G a6 5) = (adW a6 a7 5, cel G (V0 a6 a7) s0 lo 5) := congrArg (Prod.mk (a6 5)) (w_I (k := 5) (n := 100) ⟨(Nat.le_of_ble_eq_true rfl), rfl⟩ rfl)
theorem w0_6 {G : gG} {a6 a7 : Nat → Nat} {lo : Nat → Int64} : (a6 6, cM6 G a6 6) = (adW a6 a7 6, cel G (V0 a6 a7) s0 lo 6) := congrArg (Prod.mk (a6 6)) (w_O (k := 6) (fl := [some 7, some 10, some 13, some 14, none]) ⟨(Nat.le_of_ble_eq_true rfl), rfl⟩ (by decide) rfl)
theorem w0_7 {G : gG} {a6 a7 : Nat → Nat} {lo : Nat → Int64} : (a6 7, cM6 G a6 7) = (adW a6 a7 7, cel G (V0 a6 a7) s0 lo 7) := congrArg (Prod.mk (a6 7)) (w_O (k := 7) (fl := [some 8, some 9, none, none]) ⟨(Nat.le_of_ble_eq_true rfl), rfl⟩ (by decide) rfl)
theorem w0_8 {G : gG} {a6 a7 : Nat → Nat} {lo : Nat → Int64} : (a6 8, cM6 G a6 8) = (adW a6 a7 8, cel G (V0 a6 a7) s0 lo 8) := congrArg (Prod.mk (a6 8)) (w_I (k := 8) (n := 5) ⟨(Nat.le_of_ble_eq_true rfl), rfl⟩ rfl)
theorem w0_9 {G : gG} {a6 a7 : Nat → Nat} {lo : Nat → Int64} : (a6 9, cM6 G a6 9) = (adW a6 a7 9, cel G (V0 a6 a7) s0 lo 9) := congrArg (Prod.mk (a6 9)) (w_I (k := 9) (n := 5) ⟨(Nat.le_of_ble_eq_true rfl), rfl⟩ rfl)
theorem w0_10 {G : gG} {a6 a7 : Nat → Nat} {lo : Nat → Int64} : (a6 10, cM6 G a6 10) = (adW a6 a7 10, cel G (V0 a6 a7) s0 lo 10) := congrArg (Prod.mk (a6 10)) (w_O (k := 10) (fl := [some 11, some 12, none, none]) ⟨(Nat.le_of_ble_eq_true rfl), rfl⟩ (by decide) rfl)
theorem w0_11 {G : gG} {a6 a7 : Nat → Nat} {lo : Nat → Int64} : (a6 11, cM6 G a6 11) = (adW a6 a7 11, cel G (V0 a6 a7) s0 lo 11) := congrArg (Prod.mk (a6 11)) (w_I (k := 11) (n := 5) ⟨(Nat.le_of_ble_eq_true rfl), rfl⟩ rfl)
theorem w0_12 {G : gG} {a6 a7 : Nat → Nat} {lo : Nat → Int64} : (a6 12, cM6 G a6 12) = (adW a6 a7 12, cel G (V0 a6 a7) s0 lo 12) := congrArg (Prod.mk (a6 12)) (w_I (k := 12) (n := 5) ⟨(Nat.le_of_ble_eq_true rfl), rfl⟩ rfl)
theorem w0_13 {G : gG} {a6 a7 : Nat → Nat} {lo : Nat → Int64} : (a6 13, cM6 G a6 13) = (adW a6 a7 13, cel G (V0 a6 a7) s0 lo 13) := congrArg (Prod.mk (a6 13)) (w_I (k := 13) (n := 60) ⟨(Nat.le_of_ble_eq_true rfl), rfl⟩ rfl)
theorem w0_14 {G : gG} {a6 a7 : Nat → Nat} {lo : Nat → Int64} : (a6 14, cM6 G a6 14) = (adW a6 a7 14, cel G (V0 a6 a7) s0 lo 14) := congrArg (Prod.mk (a6 14)) (w_I (k := 14) (n := 60) ⟨(Nat.le_of_ble_eq_true rfl), rfl⟩ rfl)
theorem w0_15 {G : gG} {a6 a7 : Nat → Nat} {lo : Nat → Int64} : (a6 15, cM6 G a6 15) = (adW a6 a7 15, cel G (V0 a6 a7) s0 lo 15) := congrArg (Prod.mk (a6 15)) (w_O (k := 15) (fl := [none, none, none, none, none, some 16, some 17, some 20]) ⟨(Nat.le_of_ble_eq_true rfl), rfl⟩ (by decide) rfl)
theorem w0_16 {G : gG} {a6 a7 : Nat → Nat} {lo : Nat → Int64} : (a6 16, cM6 G a6 16) = (adW a6 a7 16, cel G (V0 a6 a7) s0 lo 16) := congrArg (Prod.mk (a6 16)) (w_I (k := 16) (n := 3) ⟨(Nat.le_of_ble_eq_true rfl), rfl⟩ rfl)
theorem w0_17 {G : gG} {a6 a7 : Nat → Nat} {lo : Nat → Int64} : (a6 17, cM6 G a6 17) = (adW a6 a7 17, cel G (V0 a6 a7) s0 lo 17) := congrArg (Prod.mk (a6 17)) (w_O (k := 17) (fl := [some 18, some 19, none]) ⟨(Nat.le_of_ble_eq_true rfl), rfl⟩ (by decide) rfl)
theorem w0_18 {G : gG} {a6 a7 : Nat → Nat} {lo : Nat → Int64} : (a6 18, cM6 G a6 18) = (adW a6 a7 18, cel G (V0 a6 a7) s0 lo 18) := congrArg (Prod.mk (a6 18)) (w_I (k := 18) (n := 6) ⟨(Nat.le_of_ble_eq_true rfl), rfl⟩ rfl)
theorem w0_19 {G : gG} {a6 a7 : Nat → Nat} {lo : Nat → Int64} : (a6 19, cM6 G a6 19) = (adW a6 a7 19, cel G (V0 a6 a7) s0 lo 19) := congrArg (Prod.mk (a6 19)) (w_I (k := 19) (n := 6) ⟨(Nat.le_of_ble_eq_true rfl), rfl⟩ rfl)
theorem w0_20 {G : gG} {a6 a7 : Nat → Nat} {lo : Nat → Int64} : (a6 20, cM6 G a6 20) = (adW a6 a7 20, cel G (V0 a6 a7) s0 lo 20) := congrArg (Prod.mk (a6 20)) (w_O (k := 20) (fl := [some 21, some 22, none]) ⟨(Nat.le_of_ble_eq_true rfl), rfl⟩ (by decide) rfl)
theorem w0_21 {G : gG} {a6 a7 : Nat → Nat} {lo : Nat → Int64} : (a6 21, cM6 G a6 21) = (adW a6 a7 21, cel G (V0 a6 a7) s0 lo 21) := congrArg (Prod.mk (a6 21)) (w_I (k := 21) (n := 5) ⟨(Nat.le_of_ble_eq_true rfl), rfl⟩ rfl)
theorem w0_22 {G : gG} {a6 a7 : Nat → Nat} {lo : Nat → Int64} : (a6 22, cM6 G a6 22) = (adW a6 a7 22, cel G (V0 a6 a7) s0 lo 22) := congrArg (Prod.mk (a6 22)) (w_I (k := 22) (n := 5) ⟨(Nat.le_of_ble_eq_true rfl), rfl⟩ rfl)
theorem w0_23 {G : gG} {a6 a7 : Nat → Nat} {lo : Nat → Int64} : (a6 23, cM6 G a6 23) = (adW a6 a7 23, cel G (V0 a6 a7) s0 lo 23) := congrArg (Prod.mk (a6 23)) (w_O (k := 23) (fl := [none, none, none, none, none, some 24, some 25, some 28]) ⟨(Nat.le_of_ble_eq_true rfl), rfl⟩ (by decide) rfl)
theorem w0_24 {G : gG} {a6 a7 : Nat → Nat} {lo : Nat → Int64} : (a6 24, cM6 G a6 24) = (adW a6 a7 24, cel G (V0 a6 a7) s0 lo 24) := congrArg (Prod.mk (a6 24)) (w_I (k := 24) (n := 3) ⟨(Nat.le_of_ble_eq_true rfl), rfl⟩ rfl)
theorem w0_25 {G : gG} {a6 a7 : Nat → Nat} {lo : Nat → Int64} : (a6 25, cM6 G a6 25) = (adW a6 a7 25, cel G (V0 a6 a7) s0 lo 25) := congrArg (Prod.mk (a6 25)) (w_O (k := 25) (fl := [some 26, some 27, none]) ⟨(Nat.le_of_ble_eq_true rfl), rfl⟩ (by decide) rfl)
theorem w0_26 {G : gG} {a6 a7 : Nat → Nat} {lo : Nat → Int64} : (a6 26, cM6 G a6 26) = (adW a6 a7 26, cel G (V0 a6 a7) s0 lo 26) := congrArg (Prod.mk (a6 26)) (w_I (k := 26) (n := 6) ⟨(Nat.le_of_ble_eq_true rfl), rfl⟩ rfl)
theorem w0_27 {G : gG} {a6 a7 : Nat → Nat} {lo : Nat → Int64} : (a6 27, cM6 G a6 27) = (adW a6 a7 27, cel G (V0 a6 a7) s0 lo 27) := congrArg (Prod.mk (a6 27)) (w_I (k := 27) (n := 6) ⟨(Nat.le_of_ble_eq_true rfl), rfl⟩ rfl)
theorem w0_28 {G : gG} {a6 a7 : Nat → Nat} {lo : Nat → Int64} : (a6 28, cM6 G a6 28) = (adW a6 a7 28, cel G (V0 a6 a7) s0 lo 28) := congrArg (Prod.mk (a6 28)) (w_O (k := 28) (fl := [some 29, some 30, none]) ⟨(Nat.le_of_ble_eq_true rfl), rfl⟩ (by decide) rfl)
theorem w0_29 {G : gG} {a6 a7 : Nat → Nat} {lo : Nat → Int64} : (a6 29, cM6 G a6 29) = (adW a6 a7 29, cel G (V0 a6 a7) s0 lo 29) := congrArg (Prod.mk (a6 29)) (w_I (k := 29) (n := 5) ⟨(Nat.le_of_ble_eq_true rfl), rfl⟩ rfl)
theorem w0_30 {G : gG} {a6 a7 : Nat → Nat} {lo : Nat → Int64} : (a6 30, cM6 G a6 30) = (adW a6 a7 30, cel G (V0 a6 a7) s0 lo 30) := congrArg (Prod.mk (a6 30)) (w_I (k := 30) (n := 5) ⟨(Nat.le_of_ble_eq_true rfl), rfl⟩ rfl)
theorem w0_31 {G : gG} {a6 a7 : Nat → Nat} {lo : Nat → Int64} : (a6 31, cM6 G a6 31) = (adW a6 a7 31, cel G (V0 a6 a7) s0 lo 31) := congrArg (Prod.mk (a6 31)) (w_O (k := 31) (fl := [none, none, none, none, none, some 32, some 33, some 36]) ⟨(Nat.le_of_ble_eq_true rfl), rfl⟩ (by decide) rfl)
theorem w0_32 {G : gG} {a6 a7 : Nat → Nat} {lo : Nat → Int64} : (a6 32, cM6 G a6 32) = (adW a6 a7 32, cel G (V0 a6 a7) s0 lo 32) := congrArg (Prod.mk (a6 32)) (w_I (k := 32) (n := 3) ⟨(Nat.le_of_ble_eq_true rfl), rfl⟩ rfl)
theorem w0_33 {G : gG} {a6 a7 : Nat → Nat} {lo : Nat → Int64} : (a6 33, cM6 G a6 33) = (adW a6 a7 33, cel G (V0 a6 a7) s0 lo 33) := congrArg (Prod.mk (a6 33)) (w_O (k := 33) (fl := [some 34, some 35, none]) ⟨(Nat.le_of_ble_eq_true rfl), rfl⟩ (by decide) rfl)
theorem w0_34 {G : gG} {a6 a7 : Nat → Nat} {lo : Nat → Int64} : (a6 34, cM6 G a6 34) = (adW a6 a7 34, cel G (V0 a6 a7) s0 lo 34) := congrArg (Prod.mk (a6 34)) (w_I (k := 34) (n := 6) ⟨(Nat.le_of_ble_eq_true rfl), rfl⟩ rfl)
theorem w0_35 {G : gG} {a6 a7 : Nat → Nat} {lo : Nat → Int64} : (a6 35, cM6 G a6 35) = (adW a6 a7 35, cel G (V0 a6 a7) s0 lo 35) := congrArg (Prod.mk (a6 35)) (w_I (k := 35) (n := 6) ⟨(Nat.le_of_ble_eq_true rfl), rfl⟩ rfl)
theorem w0_36 {G : gG} {a6 a7 : Nat → Nat} {lo : Nat → Int64} : (a6 36, cM6 G a6 36) = (adW a6 a7 36, cel G (V0 a6 a7) s0 lo 36) := congrArg (Prod.mk (a6 36)) (w_O (k := 36) (fl := [some 37, some 38, none]) ⟨(Nat.le_of_ble_eq_true rfl), rfl⟩ (by decide) rfl)
theorem w0_37 {G : gG} {a6 a7 : Nat → Nat} {lo : Nat → Int64} : (a6 37, cM6 G a6 37) = (adW a6 a7 37, cel G (V0 a6 a7) s0 lo 37) := congrArg (Prod.mk (a6 37)) (w_I (k := 37) (n := 5) ⟨(Nat.le_of_ble_eq_true rfl), rfl⟩ rfl)
theorem w0_38 {G : gG} {a6 a7 : Nat → Nat} {lo : Nat → Int64} : (a6 38, cM6 G a6 38) = (adW a6 a7 38, cel G (V0 a6 a7) s0 lo 38) := congrArg (Prod.mk (a6 38)) (w_I (k := 38) (n := 5) ⟨(Nat.le_of_ble_eq_true rfl), rfl⟩ rfl)
theorem w0_39 {G : gG} {a6 a7 : Nat → Nat} {lo : Nat → Int64} : (a6 39, cM6 G a6 39) = (adW a6 a7 39, cel G (V0 a6 a7) s0 lo 39) := congrArg (Prod.mk (a6 39)) (w_O (k := 39) (fl := [none, none, none, none, none, some 40, some 41, some 44]) ⟨(Nat.le_of_ble_eq_true rfl), rfl⟩ (by decide) rfl)
theorem w0_40 {G : gG} {a6 a7 : Nat → Nat} {lo : Nat → Int64} : (a6 40, cM6 G a6 40) = (adW a6 a7 40, cel G (V0 a6 a7) s0 lo 40) := congrArg (Prod.mk (a6 40)) (w_I (k := 40) (n := 3) ⟨(Nat.le_of_ble_eq_true rfl), rfl⟩ rfl)
theorem w0_41 {G : gG} {a6 a7 : Nat → Nat} {lo : Nat → Int64} : (a6 41, cM6 G a6 41) = (adW a6 a7 41, cel G (V0 a6 a7) s0 lo 41) := congrArg (Prod.mk (a6 41)) (w_O (k := 41) (fl := [some 42, some 43, none]) ⟨(Nat.le_of_ble_eq_true rfl), rfl⟩ (by decide) rfl)
theorem w0_42 {G : gG} {a6 a7 : Nat → Nat} {lo : Nat → Int64} : (a6 42, cM6 G a6 42) = (adW a6 a7 42, cel G (V0 a6 a7) s0 lo 42) := congrArg (Prod.mk (a6 42)) (w_I (k := 42) (n := 6) ⟨(Nat.le_of_ble_eq_true rfl), rfl⟩ rfl)
theorem w0_43 {G : gG} {a6 a7 : Nat → Nat} {lo : Nat → Int64} : (a6 43, cM6 G a6 43) = (adW a6 a7 43, cel G (V0 a6 a7) s0 lo 43) := congrArg (Prod.mk (a6 43)) (w_I (k := 43) (n := 6) ⟨(Nat.le_of_ble_eq_true rfl), rfl⟩ rfl)
theorem w0_44 {G : gG} {a6 a7 : Nat → Nat} {lo : Nat → Int64} : (a6 44, cM6 G a6 44) = (adW a6 a7 44, cel G (V0 a6 a7) s0 lo 44) := congrArg (Prod.mk (a6 44)) (w_O (k := 44) (fl := [some 45, some 46, none]) ⟨(Nat.le_of_ble_eq_true rfl), rfl⟩ (by decide) rfl)
theorem w0_45 {G : gG} {a6 a7 : Nat → Nat} {lo : Nat → Int64} : (a6 45, cM6 G a6 45) = (adW a6 a7 45, cel G (V0 a6 a7) s0 lo 45) := congrArg (Prod.mk (a6 45)) (w_I (k := 45) (n := 5) ⟨(Nat.le_of_ble_eq_true rfl), rfl⟩ rfl)
theorem w0_46 {G : gG} {a6 a7 : Nat → Nat} {lo : Nat → Int64} : (a6 46, cM6 G a6 46) = (adW a6 a7 46, cel G (V0 a6 a7) s0 lo 46) := congrArg (Prod.mk (a6 46)) (w_I (k := 46) (n := 5) ⟨(Nat.le_of_ble_eq_true rfl), rfl⟩ rfl)
theorem w0_47 {G : gG} {a6 a7 : Nat → Nat} {lo : Nat → Int64} : (a7 0, cM6 G a7 0) = (adW a6 a7 47, cel G (V0 a6 a7) s0 lo 47) := congrArg (Prod.mk (a7 0)) (w_O (k := 47) (fl := [some 48, some 49, some 51, some 53, none]) ⟨(Nat.le_of_ble_eq_true rfl), rfl⟩ (by decide) rfl)
theorem w0_48 {G : gG} {a6 a7 : Nat → Nat} {lo : Nat → Int64} : (a7 1, cM6 G a7 1) = (adW a6 a7 48, cel G (V0 a6 a7) s0 lo 48) := by
  have e : (va_up (va_up (va_up (va_up (fun _ => none) 0 (some (a7 15))) 1 (some (a7 23))) 2 (some (a7 31))) 3 (some (a7 39)) : Nat → Option Nat) = fun i => (([some 62, some 70, some 78, some 86] : List (Option Nat)).getD i none).map (ad (V0 a6 a7)) := by
    funext i
    rcases i with _ | _ | _ | _ | i
    · rfl
    · rfl
    · rfl
    · rfl
    · simp [va_up]
  refine congrArg (Prod.mk (a7 1)) ?_
  show (.inl (gcy G 1, 4, .inr (.inr (.inr (.inr _)))) : va_E) = _
  rw [cel_P (n := 4) (fl := [some 62, some 70, some 78, some 86]) ⟨(Nat.le_of_ble_eq_true rfl), rfl⟩, ← e]
theorem w0_49 {G : gG} {a6 a7 : Nat → Nat} {lo : Nat → Int64} : (a7 2, cM6 G a7 2) = (adW a6 a7 49, cel G (V0 a6 a7) s0 lo 49) := congrArg (Prod.mk (a7 2)) (w_O (k := 49) (fl := [some 50]) ⟨(Nat.le_of_ble_eq_true rfl), rfl⟩ (by decide) rfl)
theorem w0_50 {G : gG} {a6 a7 : Nat → Nat} {lo : Nat → Int64} : (a7 3, cM6 G a7 3) = (adW a6 a7 50, cel G (V0 a6 a7) s0 lo 50) := congrArg (Prod.mk (a7 3)) (w_I (k := 50) (n := 9) ⟨(Nat.le_of_ble_eq_true rfl), rfl⟩ rfl)
theorem w0_51 {G : gG} {a6 a7 : Nat → Nat} {lo : Nat → Int64} : (a7 4, cM6 G a7 4) = (adW a6 a7 51, cel G (V0 a6 a7) s0 lo 51) := congrArg (Prod.mk (a7 4)) (w_O (k := 51) (fl := [some 52, none, none]) ⟨(Nat.le_of_ble_eq_true rfl), rfl⟩ (by decide) rfl)
theorem w0_52 {G : gG} {a6 a7 : Nat → Nat} {lo : Nat → Int64} : (a7 5, cM6 G a7 5) = (adW a6 a7 52, cel G (V0 a6 a7) s0 lo 52) := congrArg (Prod.mk (a7 5)) (w_I (k := 52) (n := 100) ⟨(Nat.le_of_ble_eq_true rfl), rfl⟩ rfl)
theorem w0_53 {G : gG} {a6 a7 : Nat → Nat} {lo : Nat → Int64} : (a7 6, cM6 G a7 6) = (adW a6 a7 53, cel G (V0 a6 a7) s0 lo 53) := congrArg (Prod.mk (a7 6)) (w_O (k := 53) (fl := [some 54, some 57, some 60, some 61, none]) ⟨(Nat.le_of_ble_eq_true rfl), rfl⟩ (by decide) rfl)
theorem w0_54 {G : gG} {a6 a7 : Nat → Nat} {lo : Nat → Int64} : (a7 7, cM6 G a7 7) = (adW a6 a7 54, cel G (V0 a6 a7) s0 lo 54) := congrArg (Prod.mk (a7 7)) (w_O (k := 54) (fl := [some 55, some 56, none, none]) ⟨(Nat.le_of_ble_eq_true rfl), rfl⟩ (by decide) rfl)
theorem w0_55 {G : gG} {a6 a7 : Nat → Nat} {lo : Nat → Int64} : (a7 8, cM6 G a7 8) = (adW a6 a7 55, cel G (V0 a6 a7) s0 lo 55) := congrArg (Prod.mk (a7 8)) (w_I (k := 55) (n := 5) ⟨(Nat.le_of_ble_eq_true rfl), rfl⟩ rfl)
theorem w0_56 {G : gG} {a6 a7 : Nat → Nat} {lo : Nat → Int64} : (a7 9, cM6 G a7 9) = (adW a6 a7 56, cel G (V0 a6 a7) s0 lo 56) := congrArg (Prod.mk (a7 9)) (w_I (k := 56) (n := 5) ⟨(Nat.le_of_ble_eq_true rfl), rfl⟩ rfl)
theorem w0_57 {G : gG} {a6 a7 : Nat → Nat} {lo : Nat → Int64} : (a7 10, cM6 G a7 10) = (adW a6 a7 57, cel G (V0 a6 a7) s0 lo 57) := congrArg (Prod.mk (a7 10)) (w_O (k := 57) (fl := [some 58, some 59, none, none]) ⟨(Nat.le_of_ble_eq_true rfl), rfl⟩ (by decide) rfl)
theorem w0_58 {G : gG} {a6 a7 : Nat → Nat} {lo : Nat → Int64} : (a7 11, cM6 G a7 11) = (adW a6 a7 58, cel G (V0 a6 a7) s0 lo 58) := congrArg (Prod.mk (a7 11)) (w_I (k := 58) (n := 5) ⟨(Nat.le_of_ble_eq_true rfl), rfl⟩ rfl)
theorem w0_59 {G : gG} {a6 a7 : Nat → Nat} {lo : Nat → Int64} : (a7 12, cM6 G a7 12) = (adW a6 a7 59, cel G (V0 a6 a7) s0 lo 59) := congrArg (Prod.mk (a7 12)) (w_I (k := 59) (n := 5) ⟨(Nat.le_of_ble_eq_true rfl), rfl⟩ rfl)
theorem w0_60 {G : gG} {a6 a7 : Nat → Nat} {lo : Nat → Int64} : (a7 13, cM6 G a7 13) = (adW a6 a7 60, cel G (V0 a6 a7) s0 lo 60) := congrArg (Prod.mk (a7 13)) (w_I (k := 60) (n := 60) ⟨(Nat.le_of_ble_eq_true rfl), rfl⟩ rfl)
theorem w0_61 {G : gG} {a6 a7 : Nat → Nat} {lo : Nat → Int64} : (a7 14, cM6 G a7 14) = (adW a6 a7 61, cel G (V0 a6 a7) s0 lo 61) := congrArg (Prod.mk (a7 14)) (w_I (k := 61) (n := 60) ⟨(Nat.le_of_ble_eq_true rfl), rfl⟩ rfl)
theorem w0_62 {G : gG} {a6 a7 : Nat → Nat} {lo : Nat → Int64} : (a7 15, cM6 G a7 15) = (adW a6 a7 62, cel G (V0 a6 a7) s0 lo 62) := congrArg (Prod.mk (a7 15)) (w_O (k := 62) (fl := [none, none, none, none, none, some 63, some 64, some 67]) ⟨(Nat.le_of_ble_eq_true rfl), rfl⟩ (by decide) rfl)
theorem w0_63 {G : gG} {a6 a7 : Nat → Nat} {lo : Nat → Int64} : (a7 16, cM6 G a7 16) = (adW a6 a7 63, cel G (V0 a6 a7) s0 lo 63) := congrArg (Prod.mk (a7 16)) (w_I (k := 63) (n := 3) ⟨(Nat.le_of_ble_eq_true rfl), rfl⟩ rfl)
theorem w0_64 {G : gG} {a6 a7 : Nat → Nat} {lo : Nat → Int64} : (a7 17, cM6 G a7 17) = (adW a6 a7 64, cel G (V0 a6 a7) s0 lo 64) := congrArg (Prod.mk (a7 17)) (w_O (k := 64) (fl := [some 65, some 66, none]) ⟨(Nat.le_of_ble_eq_true rfl), rfl⟩ (by decide) rfl)
theorem w0_65 {G : gG} {a6 a7 : Nat → Nat} {lo : Nat → Int64} : (a7 18, cM6 G a7 18) = (adW a6 a7 65, cel G (V0 a6 a7) s0 lo 65) := congrArg (Prod.mk (a7 18)) (w_I (k := 65) (n := 6) ⟨(Nat.le_of_ble_eq_true rfl), rfl⟩ rfl)
theorem w0_66 {G : gG} {a6 a7 : Nat → Nat} {lo : Nat → Int64} : (a7 19, cM6 G a7 19) = (adW a6 a7 66, cel G (V0 a6 a7) s0 lo 66) := congrArg (Prod.mk (a7 19)) (w_I (k := 66) (n := 6) ⟨(Nat.le_of_ble_eq_true rfl), rfl⟩ rfl)
theorem w0_67 {G : gG} {a6 a7 : Nat → Nat} {lo : Nat → Int64} : (a7 20, cM6 G a7 20) = (adW a6 a7 67, cel G (V0 a6 a7) s0 lo 67) := congrArg (Prod.mk (a7 20)) (w_O (k := 67) (fl := [some 68, some 69, none]) ⟨(Nat.le_of_ble_eq_true rfl), rfl⟩ (by decide) rfl)
theorem w0_68 {G : gG} {a6 a7 : Nat → Nat} {lo : Nat → Int64} : (a7 21, cM6 G a7 21) = (adW a6 a7 68, cel G (V0 a6 a7) s0 lo 68) := congrArg (Prod.mk (a7 21)) (w_I (k := 68) (n := 5) ⟨(Nat.le_of_ble_eq_true rfl), rfl⟩ rfl)
theorem w0_69 {G : gG} {a6 a7 : Nat → Nat} {lo : Nat → Int64} : (a7 22, cM6 G a7 22) = (adW a6 a7 69, cel G (V0 a6 a7) s0 lo 69) := congrArg (Prod.mk (a7 22)) (w_I (k := 69) (n := 5) ⟨(Nat.le_of_ble_eq_true rfl), rfl⟩ rfl)
theorem w0_70 {G : gG} {a6 a7 : Nat → Nat} {lo : Nat → Int64} : (a7 23, cM6 G a7 23) = (adW a6 a7 70, cel G (V0 a6 a7) s0 lo 70) := congrArg (Prod.mk (a7 23)) (w_O (k := 70) (fl := [none, none, none, none, none, some 71, some 72, some 75]) ⟨(Nat.le_of_ble_eq_true rfl), rfl⟩ (by decide) rfl)
theorem w0_71 {G : gG} {a6 a7 : Nat → Nat} {lo : Nat → Int64} : (a7 24, cM6 G a7 24) = (adW a6 a7 71, cel G (V0 a6 a7) s0 lo 71) := congrArg (Prod.mk (a7 24)) (w_I (k := 71) (n := 3) ⟨(Nat.le_of_ble_eq_true rfl), rfl⟩ rfl)
theorem w0_72 {G : gG} {a6 a7 : Nat → Nat} {lo : Nat → Int64} : (a7 25, cM6 G a7 25) = (adW a6 a7 72, cel G (V0 a6 a7) s0 lo 72) := congrArg (Prod.mk (a7 25)) (w_O (k := 72) (fl := [some 73, some 74, none]) ⟨(Nat.le_of_ble_eq_true rfl), rfl⟩ (by decide) rfl)
theorem w0_73 {G : gG} {a6 a7 : Nat → Nat} {lo : Nat → Int64} : (a7 26, cM6 G a7 26) = (adW a6 a7 73, cel G (V0 a6 a7) s0 lo 73) := congrArg (Prod.mk (a7 26)) (w_I (k := 73) (n := 6) ⟨(Nat.le_of_ble_eq_true rfl), rfl⟩ rfl)
theorem w0_74 {G : gG} {a6 a7 : Nat → Nat} {lo : Nat → Int64} : (a7 27, cM6 G a7 27) = (adW a6 a7 74, cel G (V0 a6 a7) s0 lo 74) := congrArg (Prod.mk (a7 27)) (w_I (k := 74) (n := 6) ⟨(Nat.le_of_ble_eq_true rfl), rfl⟩ rfl)
theorem w0_75 {G : gG} {a6 a7 : Nat → Nat} {lo : Nat → Int64} : (a7 28, cM6 G a7 28) = (adW a6 a7 75, cel G (V0 a6 a7) s0 lo 75) := congrArg (Prod.mk (a7 28)) (w_O (k := 75) (fl := [some 76, some 77, none]) ⟨(Nat.le_of_ble_eq_true rfl), rfl⟩ (by decide) rfl)
theorem w0_76 {G : gG} {a6 a7 : Nat → Nat} {lo : Nat → Int64} : (a7 29, cM6 G a7 29) = (adW a6 a7 76, cel G (V0 a6 a7) s0 lo 76) := congrArg (Prod.mk (a7 29)) (w_I (k := 76) (n := 5) ⟨(Nat.le_of_ble_eq_true rfl), rfl⟩ rfl)
theorem w0_77 {G : gG} {a6 a7 : Nat → Nat} {lo : Nat → Int64} : (a7 30, cM6 G a7 30) = (adW a6 a7 77, cel G (V0 a6 a7) s0 lo 77) := congrArg (Prod.mk (a7 30)) (w_I (k := 77) (n := 5) ⟨(Nat.le_of_ble_eq_true rfl), rfl⟩ rfl)
theorem w0_78 {G : gG} {a6 a7 : Nat → Nat} {lo : Nat → Int64} : (a7 31, cM6 G a7 31) = (adW a6 a7 78, cel G (V0 a6 a7) s0 lo 78) := congrArg (Prod.mk (a7 31)) (w_O (k := 78) (fl := [none, none, none, none, none, some 79, some 80, some 83]) ⟨(Nat.le_of_ble_eq_true rfl), rfl⟩ (by decide) rfl)
theorem w0_79 {G : gG} {a6 a7 : Nat → Nat} {lo : Nat → Int64} : (a7 32, cM6 G a7 32) = (adW a6 a7 79, cel G (V0 a6 a7) s0 lo 79) := congrArg (Prod.mk (a7 32)) (w_I (k := 79) (n := 3) ⟨(Nat.le_of_ble_eq_true rfl), rfl⟩ rfl)
theorem w0_80 {G : gG} {a6 a7 : Nat → Nat} {lo : Nat → Int64} : (a7 33, cM6 G a7 33) = (adW a6 a7 80, cel G (V0 a6 a7) s0 lo 80) := congrArg (Prod.mk (a7 33)) (w_O (k := 80) (fl := [some 81, some 82, none]) ⟨(Nat.le_of_ble_eq_true rfl), rfl⟩ (by decide) rfl)
theorem w0_81 {G : gG} {a6 a7 : Nat → Nat} {lo : Nat → Int64} : (a7 34, cM6 G a7 34) = (adW a6 a7 81, cel G (V0 a6 a7) s0 lo 81) := congrArg (Prod.mk (a7 34)) (w_I (k := 81) (n := 6) ⟨(Nat.le_of_ble_eq_true rfl), rfl⟩ rfl)
theorem w0_82 {G : gG} {a6 a7 : Nat → Nat} {lo : Nat → Int64} : (a7 35, cM6 G a7 35) = (adW a6 a7 82, cel G (V0 a6 a7) s0 lo 82) := congrArg (Prod.mk (a7 35)) (w_I (k := 82) (n := 6) ⟨(Nat.le_of_ble_eq_true rfl), rfl⟩ rfl)
theorem w0_83 {G : gG} {a6 a7 : Nat → Nat} {lo : Nat → Int64} : (a7 36, cM6 G a7 36) = (adW a6 a7 83, cel G (V0 a6 a7) s0 lo 83) := congrArg (Prod.mk (a7 36)) (w_O (k := 83) (fl := [some 84, some 85, none]) ⟨(Nat.le_of_ble_eq_true rfl), rfl⟩ (by decide) rfl)
theorem w0_84 {G : gG} {a6 a7 : Nat → Nat} {lo : Nat → Int64} : (a7 37, cM6 G a7 37) = (adW a6 a7 84, cel G (V0 a6 a7) s0 lo 84) := congrArg (Prod.mk (a7 37)) (w_I (k := 84) (n := 5) ⟨(Nat.le_of_ble_eq_true rfl), rfl⟩ rfl)
theorem w0_85 {G : gG} {a6 a7 : Nat → Nat} {lo : Nat → Int64} : (a7 38, cM6 G a7 38) = (adW a6 a7 85, cel G (V0 a6 a7) s0 lo 85) := congrArg (Prod.mk (a7 38)) (w_I (k := 85) (n := 5) ⟨(Nat.le_of_ble_eq_true rfl), rfl⟩ rfl)
theorem w0_86 {G : gG} {a6 a7 : Nat → Nat} {lo : Nat → Int64} : (a7 39, cM6 G a7 39) = (adW a6 a7 86, cel G (V0 a6 a7) s0 lo 86) := congrArg (Prod.mk (a7 39)) (w_O (k := 86) (fl := [none, none, none, none, none, some 87, some 88, some 91]) ⟨(Nat.le_of_ble_eq_true rfl), rfl⟩ (by decide) rfl)
theorem w0_87 {G : gG} {a6 a7 : Nat → Nat} {lo : Nat → Int64} : (a7 40, cM6 G a7 40) = (adW a6 a7 87, cel G (V0 a6 a7) s0 lo 87) := congrArg (Prod.mk (a7 40)) (w_I (k := 87) (n := 3) ⟨(Nat.le_of_ble_eq_true rfl), rfl⟩ rfl)
theorem w0_88 {G : gG} {a6 a7 : Nat → Nat} {lo : Nat → Int64} : (a7 41, cM6 G a7 41) = (adW a6 a7 88, cel G (V0 a6 a7) s0 lo 88) := congrArg (Prod.mk (a7 41)) (w_O (k := 88) (fl := [some 89, some 90, none]) ⟨(Nat.le_of_ble_eq_true rfl), rfl⟩ (by decide) rfl)
theorem w0_89 {G : gG} {a6 a7 : Nat → Nat} {lo : Nat → Int64} : (a7 42, cM6 G a7 42) = (adW a6 a7 89, cel G (V0 a6 a7) s0 lo 89) := congrArg (Prod.mk (a7 42)) (w_I (k := 89) (n := 6) ⟨(Nat.le_of_ble_eq_true rfl), rfl⟩ rfl)
theorem w0_90 {G : gG} {a6 a7 : Nat → Nat} {lo : Nat → Int64} : (a7 43, cM6 G a7 43) = (adW a6 a7 90, cel G (V0 a6 a7) s0 lo 90) := congrArg (Prod.mk (a7 43)) (w_I (k := 90) (n := 6) ⟨(Nat.le_of_ble_eq_true rfl), rfl⟩ rfl)
theorem w0_91 {G : gG} {a6 a7 : Nat → Nat} {lo : Nat → Int64} : (a7 44, cM6 G a7 44) = (adW a6 a7 91, cel G (V0 a6 a7) s0 lo 91) := congrArg (Prod.mk (a7 44)) (w_O (k := 91) (fl := [some 92, some 93, none]) ⟨(Nat.le_of_ble_eq_true rfl), rfl⟩ (by decide) rfl)
theorem w0_92 {G : gG} {a6 a7 : Nat → Nat} {lo : Nat → Int64} : (a7 45, cM6 G a7 45) = (adW a6 a7 92, cel G (V0 a6 a7) s0 lo 92) := congrArg (Prod.mk (a7 45)) (w_I (k := 92) (n := 5) ⟨(Nat.le_of_ble_eq_true rfl), rfl⟩ rfl)
theorem w0_93 {G : gG} {a6 a7 : Nat → Nat} {lo : Nat → Int64} : (a7 46, cM6 G a7 46) = (adW a6 a7 93, cel G (V0 a6 a7) s0 lo 93) := congrArg (Prod.mk (a7 46)) (w_I (k := 93) (n := 5) ⟨(Nat.le_of_ble_eq_true rfl), rfl⟩ rfl)
set_option maxRecDepth 100000 in
set_option maxHeartbeats 4000000 in
theorem world_0 {G : gG} {a6 a7 : Nat → Nat} {f6 f7 : Nat → Nat × va_E} (h6 : ∀ k, k < 47 → f6 k = (a6 k, cM6 G a6 k)) (h7 : ∀ k, k < 47 → f7 k = (a7 k, cM6 G a7 k)) : tab 47 f6 ++ tab 47 f7 = wS G (V0 a6 a7) s0 (fun _ => 0) := by
  rw [tab_tab (n' := 94) rfl]
  show _ = tab 94 (fun k => (adW a6 a7 k, cel G (V0 a6 a7) s0 (fun _ => 0) k))
  apply tab_ext
  have g0 : ∀ k, k < 0 → (fun k => if k < 47 then f6 k else f7 (k - 47)) k = (adW a6 a7 k, cel G (V0 a6 a7) s0 (fun _ => 0) k) := all_0
  have g1 := all_s (n' := 1) rfl g0 ((h6 0 (Nat.le_of_ble_eq_true rfl)).trans w0_0)
  have g2 := all_s (n' := 2) rfl g1 ((h6 1 (Nat.le_of_ble_eq_true rfl)).trans w0_1)
  have g3 := all_s (n' := 3) rfl g2 ((h6 2 (Nat.le_of_ble_eq_true rfl)).trans w0_2)
  have g4 := all_s (n' := 4) rfl g3 ((h6 3 (Nat.le_of_ble_eq_true rfl)).trans w0_3)
  have g5 := all_s (n' := 5) rfl g4 ((h6 4 (Nat.le_of_ble_eq_true rfl)).trans w0_4)
  have g6 := all_s (n' := 6) rfl g5 ((h6 5 (Nat.le_of_ble_eq_true rfl)).trans w0_5)
  have g7 := all_s (n' := 7) rfl g6 ((h6 6 (Nat.le_of_ble_eq_true rfl)).trans w0_6)
  have g8 := all_s (n' := 8) rfl g7 ((h6 7 (Nat.le_of_ble_eq_true rfl)).trans w0_7)
  have g9 := all_s (n' := 9) rfl g8 ((h6 8 (Nat.le_of_ble_eq_true rfl)).trans w0_8)
  have g10 := all_s (n' := 10) rfl g9 ((h6 9 (Nat.le_of_ble_eq_true rfl)).trans w0_9)
  have g11 := all_s (n' := 11) rfl g10 ((h6 10 (Nat.le_of_ble_eq_true rfl)).trans w0_10)
  have g12 := all_s (n' := 12) rfl g11 ((h6 11 (Nat.le_of_ble_eq_true rfl)).trans w0_11)
  have g13 := all_s (n' := 13) rfl g12 ((h6 12 (Nat.le_of_ble_eq_true rfl)).trans w0_12)
  have g14 := all_s (n' := 14) rfl g13 ((h6 13 (Nat.le_of_ble_eq_true rfl)).trans w0_13)
  have g15 := all_s (n' := 15) rfl g14 ((h6 14 (Nat.le_of_ble_eq_true rfl)).trans w0_14)
  have g16 := all_s (n' := 16) rfl g15 ((h6 15 (Nat.le_of_ble_eq_true rfl)).trans w0_15)
  have g17 := all_s (n' := 17) rfl g16 ((h6 16 (Nat.le_of_ble_eq_true rfl)).trans w0_16)
  have g18 := all_s (n' := 18) rfl g17 ((h6 17 (Nat.le_of_ble_eq_true rfl)).trans w0_17)
  have g19 := all_s (n' := 19) rfl g18 ((h6 18 (Nat.le_of_ble_eq_true rfl)).trans w0_18)
  have g20 := all_s (n' := 20) rfl g19 ((h6 19 (Nat.le_of_ble_eq_true rfl)).trans w0_19)
  have g21 := all_s (n' := 21) rfl g20 ((h6 20 (Nat.le_of_ble_eq_true rfl)).trans w0_20)
  have g22 := all_s (n' := 22) rfl g21 ((h6 21 (Nat.le_of_ble_eq_true rfl)).trans w0_21)
  have g23 := all_s (n' := 23) rfl g22 ((h6 22 (Nat.le_of_ble_eq_true rfl)).trans w0_22)
  have g24 := all_s (n' := 24) rfl g23 ((h6 23 (Nat.le_of_ble_eq_true rfl)).trans w0_23)
  have g25 := all_s (n' := 25) rfl g24 ((h6 24 (Nat.le_of_ble_eq_true rfl)).trans w0_24)
  have g26 := all_s (n' := 26) rfl g25 ((h6 25 (Nat.le_of_ble_eq_true rfl)).trans w0_25)
  have g27 := all_s (n' := 27) rfl g26 ((h6 26 (Nat.le_of_ble_eq_true rfl)).trans w0_26)
  have g28 := all_s (n' := 28) rfl g27 ((h6 27 (Nat.le_of_ble_eq_true rfl)).trans w0_27)
  have g29 := all_s (n' := 29) rfl g28 ((h6 28 (Nat.le_of_ble_eq_true rfl)).trans w0_28)
  have g30 := all_s (n' := 30) rfl g29 ((h6 29 (Nat.le_of_ble_eq_true rfl)).trans w0_29)
  have g31 := all_s (n' := 31) rfl g30 ((h6 30 (Nat.le_of_ble_eq_true rfl)).trans w0_30)
  have g32 := all_s (n' := 32) rfl g31 ((h6 31 (Nat.le_of_ble_eq_true rfl)).trans w0_31)
  have g33 := all_s (n' := 33) rfl g32 ((h6 32 (Nat.le_of_ble_eq_true rfl)).trans w0_32)
  have g34 := all_s (n' := 34) rfl g33 ((h6 33 (Nat.le_of_ble_eq_true rfl)).trans w0_33)
  have g35 := all_s (n' := 35) rfl g34 ((h6 34 (Nat.le_of_ble_eq_true rfl)).trans w0_34)
  have g36 := all_s (n' := 36) rfl g35 ((h6 35 (Nat.le_of_ble_eq_true rfl)).trans w0_35)
  have g37 := all_s (n' := 37) rfl g36 ((h6 36 (Nat.le_of_ble_eq_true rfl)).trans w0_36)
  have g38 := all_s (n' := 38) rfl g37 ((h6 37 (Nat.le_of_ble_eq_true rfl)).trans w0_37)
  have g39 := all_s (n' := 39) rfl g38 ((h6 38 (Nat.le_of_ble_eq_true rfl)).trans w0_38)
  have g40 := all_s (n' := 40) rfl g39 ((h6 39 (Nat.le_of_ble_eq_true rfl)).trans w0_39)
  have g41 := all_s (n' := 41) rfl g40 ((h6 40 (Nat.le_of_ble_eq_true rfl)).trans w0_40)
  have g42 := all_s (n' := 42) rfl g41 ((h6 41 (Nat.le_of_ble_eq_true rfl)).trans w0_41)
  have g43 := all_s (n' := 43) rfl g42 ((h6 42 (Nat.le_of_ble_eq_true rfl)).trans w0_42)
  have g44 := all_s (n' := 44) rfl g43 ((h6 43 (Nat.le_of_ble_eq_true rfl)).trans w0_43)
  have g45 := all_s (n' := 45) rfl g44 ((h6 44 (Nat.le_of_ble_eq_true rfl)).trans w0_44)
  have g46 := all_s (n' := 46) rfl g45 ((h6 45 (Nat.le_of_ble_eq_true rfl)).trans w0_45)
  have g47 := all_s (n' := 47) rfl g46 ((h6 46 (Nat.le_of_ble_eq_true rfl)).trans w0_46)
  have g48 := all_s (n' := 48) rfl g47 ((h7 0 (Nat.le_of_ble_eq_true rfl)).trans w0_47)
  have g49 := all_s (n' := 49) rfl g48 ((h7 1 (Nat.le_of_ble_eq_true rfl)).trans w0_48)
  have g50 := all_s (n' := 50) rfl g49 ((h7 2 (Nat.le_of_ble_eq_true rfl)).trans w0_49)
  have g51 := all_s (n' := 51) rfl g50 ((h7 3 (Nat.le_of_ble_eq_true rfl)).trans w0_50)
  have g52 := all_s (n' := 52) rfl g51 ((h7 4 (Nat.le_of_ble_eq_true rfl)).trans w0_51)
  have g53 := all_s (n' := 53) rfl g52 ((h7 5 (Nat.le_of_ble_eq_true rfl)).trans w0_52)
  have g54 := all_s (n' := 54) rfl g53 ((h7 6 (Nat.le_of_ble_eq_true rfl)).trans w0_53)
  have g55 := all_s (n' := 55) rfl g54 ((h7 7 (Nat.le_of_ble_eq_true rfl)).trans w0_54)
  have g56 := all_s (n' := 56) rfl g55 ((h7 8 (Nat.le_of_ble_eq_true rfl)).trans w0_55)
  have g57 := all_s (n' := 57) rfl g56 ((h7 9 (Nat.le_of_ble_eq_true rfl)).trans w0_56)
  have g58 := all_s (n' := 58) rfl g57 ((h7 10 (Nat.le_of_ble_eq_true rfl)).trans w0_57)
  have g59 := all_s (n' := 59) rfl g58 ((h7 11 (Nat.le_of_ble_eq_true rfl)).trans w0_58)
  have g60 := all_s (n' := 60) rfl g59 ((h7 12 (Nat.le_of_ble_eq_true rfl)).trans w0_59)
  have g61 := all_s (n' := 61) rfl g60 ((h7 13 (Nat.le_of_ble_eq_true rfl)).trans w0_60)
  have g62 := all_s (n' := 62) rfl g61 ((h7 14 (Nat.le_of_ble_eq_true rfl)).trans w0_61)
  have g63 := all_s (n' := 63) rfl g62 ((h7 15 (Nat.le_of_ble_eq_true rfl)).trans w0_62)
  have g64 := all_s (n' := 64) rfl g63 ((h7 16 (Nat.le_of_ble_eq_true rfl)).trans w0_63)
  have g65 := all_s (n' := 65) rfl g64 ((h7 17 (Nat.le_of_ble_eq_true rfl)).trans w0_64)
  have g66 := all_s (n' := 66) rfl g65 ((h7 18 (Nat.le_of_ble_eq_true rfl)).trans w0_65)
  have g67 := all_s (n' := 67) rfl g66 ((h7 19 (Nat.le_of_ble_eq_true rfl)).trans w0_66)
  have g68 := all_s (n' := 68) rfl g67 ((h7 20 (Nat.le_of_ble_eq_true rfl)).trans w0_67)
  have g69 := all_s (n' := 69) rfl g68 ((h7 21 (Nat.le_of_ble_eq_true rfl)).trans w0_68)
  have g70 := all_s (n' := 70) rfl g69 ((h7 22 (Nat.le_of_ble_eq_true rfl)).trans w0_69)
  have g71 := all_s (n' := 71) rfl g70 ((h7 23 (Nat.le_of_ble_eq_true rfl)).trans w0_70)
  have g72 := all_s (n' := 72) rfl g71 ((h7 24 (Nat.le_of_ble_eq_true rfl)).trans w0_71)
  have g73 := all_s (n' := 73) rfl g72 ((h7 25 (Nat.le_of_ble_eq_true rfl)).trans w0_72)
  have g74 := all_s (n' := 74) rfl g73 ((h7 26 (Nat.le_of_ble_eq_true rfl)).trans w0_73)
  have g75 := all_s (n' := 75) rfl g74 ((h7 27 (Nat.le_of_ble_eq_true rfl)).trans w0_74)
  have g76 := all_s (n' := 76) rfl g75 ((h7 28 (Nat.le_of_ble_eq_true rfl)).trans w0_75)
  have g77 := all_s (n' := 77) rfl g76 ((h7 29 (Nat.le_of_ble_eq_true rfl)).trans w0_76)
  have g78 := all_s (n' := 78) rfl g77 ((h7 30 (Nat.le_of_ble_eq_true rfl)).trans w0_77)
  have g79 := all_s (n' := 79) rfl g78 ((h7 31 (Nat.le_of_ble_eq_true rfl)).trans w0_78)
  have g80 := all_s (n' := 80) rfl g79 ((h7 32 (Nat.le_of_ble_eq_true rfl)).trans w0_79)
  have g81 := all_s (n' := 81) rfl g80 ((h7 33 (Nat.le_of_ble_eq_true rfl)).trans w0_80)
  have g82 := all_s (n' := 82) rfl g81 ((h7 34 (Nat.le_of_ble_eq_true rfl)).trans w0_81)
  have g83 := all_s (n' := 83) rfl g82 ((h7 35 (Nat.le_of_ble_eq_true rfl)).trans w0_82)
  have g84 := all_s (n' := 84) rfl g83 ((h7 36 (Nat.le_of_ble_eq_true rfl)).trans w0_83)
  have g85 := all_s (n' := 85) rfl g84 ((h7 37 (Nat.le_of_ble_eq_true rfl)).trans w0_84)
  have g86 := all_s (n' := 86) rfl g85 ((h7 38 (Nat.le_of_ble_eq_true rfl)).trans w0_85)
  have g87 := all_s (n' := 87) rfl g86 ((h7 39 (Nat.le_of_ble_eq_true rfl)).trans w0_86)
  have g88 := all_s (n' := 88) rfl g87 ((h7 40 (Nat.le_of_ble_eq_true rfl)).trans w0_87)
  have g89 := all_s (n' := 89) rfl g88 ((h7 41 (Nat.le_of_ble_eq_true rfl)).trans w0_88)
  have g90 := all_s (n' := 90) rfl g89 ((h7 42 (Nat.le_of_ble_eq_true rfl)).trans w0_89)
  have g91 := all_s (n' := 91) rfl g90 ((h7 43 (Nat.le_of_ble_eq_true rfl)).trans w0_90)
  have g92 := all_s (n' := 92) rfl g91 ((h7 44 (Nat.le_of_ble_eq_true rfl)).trans w0_91)
  have g93 := all_s (n' := 93) rfl g92 ((h7 45 (Nat.le_of_ble_eq_true rfl)).trans w0_92)
  have g94 := all_s (n' := 94) rfl g93 ((h7 46 (Nat.le_of_ble_eq_true rfl)).trans w0_93)
  exact g94
theorem hallAt_0 {a6 a7 : Nat → Nat} : hallAt (V0 a6 a7) 0 := by
  refine ⟨⟨Nat.le_of_ble_eq_true rfl, rfl⟩, ⟨Nat.le_of_ble_eq_true rfl, rfl⟩, ⟨Nat.le_of_ble_eq_true rfl, rfl⟩, ⟨Nat.le_of_ble_eq_true rfl, rfl⟩, ⟨Nat.le_of_ble_eq_true rfl, rfl⟩, ⟨Nat.le_of_ble_eq_true rfl, rfl⟩, ⟨⟨Nat.le_of_ble_eq_true rfl, rfl⟩, ⟨⟨Nat.le_of_ble_eq_true rfl, rfl⟩, ⟨Nat.le_of_ble_eq_true rfl, rfl⟩, ⟨Nat.le_of_ble_eq_true rfl, rfl⟩⟩, ⟨⟨Nat.le_of_ble_eq_true rfl, rfl⟩, ⟨Nat.le_of_ble_eq_true rfl, rfl⟩, ⟨Nat.le_of_ble_eq_true rfl, rfl⟩⟩, ⟨Nat.le_of_ble_eq_true rfl, rfl⟩, ⟨Nat.le_of_ble_eq_true rfl, rfl⟩⟩, ?_⟩
  intro p hp
  rcases p with _ | _ | _ | _ | p
  iterate 4 exact ⟨⟨Nat.le_of_ble_eq_true rfl, rfl⟩, ⟨Nat.le_of_ble_eq_true rfl, rfl⟩, ⟨⟨Nat.le_of_ble_eq_true rfl, rfl⟩, ⟨Nat.le_of_ble_eq_true rfl, rfl⟩, ⟨Nat.le_of_ble_eq_true rfl, rfl⟩⟩, ⟨⟨Nat.le_of_ble_eq_true rfl, rfl⟩, ⟨Nat.le_of_ble_eq_true rfl, rfl⟩, ⟨Nat.le_of_ble_eq_true rfl, rfl⟩⟩⟩
  exact absurd hp (by omega)
theorem hallAt_47 {a6 a7 : Nat → Nat} : hallAt (V0 a6 a7) 47 := by
  refine ⟨⟨Nat.le_of_ble_eq_true rfl, rfl⟩, ⟨Nat.le_of_ble_eq_true rfl, rfl⟩, ⟨Nat.le_of_ble_eq_true rfl, rfl⟩, ⟨Nat.le_of_ble_eq_true rfl, rfl⟩, ⟨Nat.le_of_ble_eq_true rfl, rfl⟩, ⟨Nat.le_of_ble_eq_true rfl, rfl⟩, ⟨⟨Nat.le_of_ble_eq_true rfl, rfl⟩, ⟨⟨Nat.le_of_ble_eq_true rfl, rfl⟩, ⟨Nat.le_of_ble_eq_true rfl, rfl⟩, ⟨Nat.le_of_ble_eq_true rfl, rfl⟩⟩, ⟨⟨Nat.le_of_ble_eq_true rfl, rfl⟩, ⟨Nat.le_of_ble_eq_true rfl, rfl⟩, ⟨Nat.le_of_ble_eq_true rfl, rfl⟩⟩, ⟨Nat.le_of_ble_eq_true rfl, rfl⟩, ⟨Nat.le_of_ble_eq_true rfl, rfl⟩⟩, ?_⟩
  intro p hp
  rcases p with _ | _ | _ | _ | p
  iterate 4 exact ⟨⟨Nat.le_of_ble_eq_true rfl, rfl⟩, ⟨Nat.le_of_ble_eq_true rfl, rfl⟩, ⟨⟨Nat.le_of_ble_eq_true rfl, rfl⟩, ⟨Nat.le_of_ble_eq_true rfl, rfl⟩, ⟨Nat.le_of_ble_eq_true rfl, rfl⟩⟩, ⟨⟨Nat.le_of_ble_eq_true rfl, rfl⟩, ⟨Nat.le_of_ble_eq_true rfl, rfl⟩, ⟨Nat.le_of_ble_eq_true rfl, rfl⟩⟩⟩
  exact absurd hp (by omega)
def pl0 : plT := (10, 1, 20, 0, false, fun _ => none, [], [])
def h0 : hT := ([], fun _ => 9, fun _ => pl0, 0)
theorem s0_hall_0 : hallIs s0 0 h0 := by
  refine ⟨⟨0, by decide, by decide +kernel, by decide +kernel, by decide, fun i hi => absurd hi (Nat.not_lt_zero i)⟩, ?_, ?_, by decide +kernel⟩
  · have key : ∀ k, k < 9 → s0 (0 + 2 + 1) k = nI 9 := by decide +kernel
    exact key
  · have key : ∀ p, p < 4 → s0 (0 + 15 + 8 * p) 0 = nI 10 ∧ s0 (0 + 15 + 8 * p) 1 = nI 1 ∧ s0 (0 + 15 + 8 * p) 2 = nI 20 ∧ s0 (0 + 15 + 8 * p) 3 = 0 ∧ s0 (0 + 15 + 8 * p) 4 = bI false ∧ (∀ j, j < 3 → s0 (0 + 15 + 8 * p + 1) j = shI none) ∧ s0 (0 + 15 + 8 * p + 2) 2 = nI 0 ∧ s0 (0 + 15 + 8 * p + 5) 2 = nI 0 := by decide +kernel
    intro p hp
    obtain ⟨k0, k1, k2, k3, k4, k5, k6, k7⟩ := key p hp
    exact ⟨k0, k1, k2, k3, k4, k5, ⟨k6, fun i hi => absurd hi (Nat.not_lt_zero i)⟩, ⟨k7, fun i hi => absurd hi (Nat.not_lt_zero i)⟩⟩
theorem s0_hall_47 : hallIs s0 47 h0 := by
  refine ⟨⟨0, by decide, by decide +kernel, by decide +kernel, by decide, fun i hi => absurd hi (Nat.not_lt_zero i)⟩, ?_, ?_, by decide +kernel⟩
  · have key : ∀ k, k < 9 → s0 (47 + 2 + 1) k = nI 9 := by decide +kernel
    exact key
  · have key : ∀ p, p < 4 → s0 (47 + 15 + 8 * p) 0 = nI 10 ∧ s0 (47 + 15 + 8 * p) 1 = nI 1 ∧ s0 (47 + 15 + 8 * p) 2 = nI 20 ∧ s0 (47 + 15 + 8 * p) 3 = 0 ∧ s0 (47 + 15 + 8 * p) 4 = bI false ∧ (∀ j, j < 3 → s0 (47 + 15 + 8 * p + 1) j = shI none) ∧ s0 (47 + 15 + 8 * p + 2) 2 = nI 0 ∧ s0 (47 + 15 + 8 * p + 5) 2 = nI 0 := by decide +kernel
    intro p hp
    obtain ⟨k0, k1, k2, k3, k4, k5, k6, k7⟩ := key p hp
    exact ⟨k0, k1, k2, k3, k4, k5, ⟨k6, fun i hi => absurd hi (Nat.not_lt_zero i)⟩, ⟨k7, fun i hi => absurd hi (Nat.not_lt_zero i)⟩⟩
theorem h0_pl : plOk pl0 := ⟨by decide, by decide, by decide, by decide, fun j _ k hk => absurd (show (none : Option Nat) = some k from hk) (by simp), fun i hi => absurd hi (Nat.not_lt_zero i), fun i hi => absurd hi (Nat.not_lt_zero i), by decide, by decide⟩
theorem h0_ok : hallOk 9 h0 :=
  ⟨fun x hx => absurd hx List.not_mem_nil, fun k _ => Nat.le_refl 9, fun p _ => h0_pl, by decide⟩
theorem h0_good : good h0 := ⟨h0_ok, fun k _ => by
  rw [outN_ctr]
  rfl, fun p _ => rfl⟩
