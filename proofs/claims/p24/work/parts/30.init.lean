/-! the constructors: the world grows behind what was there (by program) -/
theorem wget {pre r : va_W} {i : Nat} : (pre ++ r)[pre.length + i]? = r[i]? := by rw [List.getElem?_append_right (Nat.le_add_right _ _), Nat.add_sub_cancel_left]
theorem wset {pre r : va_W} {i : Nat} {x : Nat × va_E} : (pre ++ r).set (pre.length + i) x = pre ++ r.set i x := by
  rw [List.set_append_right _ _ (Nat.le_add_right _ _), Nat.add_sub_cancel_left]
section gI
variable {G : gG} {M : mT} {cc : ByteArray} {rm : Room} {QF : Array Value → State → List Frame → State → Prop} {pc : Nat} {L : List (Option Value)} {st : List Value} {ws ws' pre r : va_W} {cells slots : Nat} {a idx ci k N : Nat} {C : String} {T : u_T} {ty : Nat → FieldType} {fs : List Value}
theorem rWs (e : ws = ws') (kk : RW G M cc rm QF pc L st ws' cells slots) : RW G M cc rm QF pc L st ws cells slots := e ▸ kk
theorem qNew (hd : decode cc pc = .ok (.new idx, 3)) (hc : vwCl[ci]? = some (C, T, N)) (hin : ∀ w ∈ u_ws C T N, w ∈ gWds) (hcl : Cond.classLink (mO M) idx C ∈ gWds) (hins : Cond.instantiable C N ∈ gWds) (hini : Cond.initialized C ∈ gWds) (ht : fTy C T N ty) (hfs : ∀ j, j < N → defaultValue (ty j) = vp_V fs j) (hcs : cells + 1 ≤ rm.cells) (hsl : slots + N ≤ rm.slots) (kk : ∀ q : Nat, RW G M cc rm QF (pc + 3) L (.ref q :: st) (pre ++ (r ++ [(q, .inr (ci, fs))])) (cells + 1) (slots + N)) : RW G M cc rm QF pc L st (pre ++ r) cells slots :=
  rNew hd hc hin hcl hins hini ht hfs hcs hsl (fun q => by rw [List.append_assoc]; exact kk q)
theorem qNewI {n : Int32} (hd : decode cc pc = .ok (.newarray .int, 2)) (hn : ¬ n < 0) (hN : n.toNatClampNeg = N) (hb : N * 4 ≤ 536870912) (hcs : cells + 1 ≤ rm.cells) (hsl : slots + N ≤ rm.slots) (kk : ∀ q : Nat, RW G M cc rm QF (pc + 2) L (.ref q :: st) (pre ++ (r ++ [(q, .inl (gcy G 0, N, .inl (fun _ => 0)))])) (cells + 1) (slots + N)) : RW G M cc rm QF pc L (.int n :: st) (pre ++ r) cells slots :=
  rNewI hd wd_aint hn hN hb hcs hsl (fun q => by rw [List.append_assoc]; exact kk q)
theorem qNewP {n : Int32} (hd : decode cc pc = .ok (.anewarray idx, 3)) (hcl : Cond.classLink (mO M) idx RX2 ∈ gWds) (hn : ¬ n < 0) (hN : n.toNatClampNeg = N) (hb : N * 4 ≤ 536870912) (hcs : cells + 1 ≤ rm.cells) (hsl : slots + N ≤ rm.slots) (kk : ∀ q : Nat, RW G M cc rm QF (pc + 3) L (.ref q :: st) (pre ++ (r ++ [(q, .inl (gcy G 1, N, .inr (.inr (.inr (.inr (fun _ => none))))))])) (cells + 1) (slots + N)) : RW G M cc rm QF pc L (.int n :: st) (pre ++ r) cells slots :=
  rNewP hd hcl hn hN hb hcs hsl (fun q => by rw [List.append_assoc]; exact kk q)
theorem qPutF {v : Value} (hd : decode cc pc = .ok (.putfield idx, 3)) (hf : fLk (mO M) idx ci k C T N) (hg : Cond.fieldLink (mO M) idx (T k).1 (T k).2.1 (T k).2.2.1 ∈ gWds) (ht : fTy C T N ty) (hfin : (T k).2.2.2 = true) (hnm : M.2.1 = "<init>") (hdc : (T k).1 = mO M) (q : Nat) (he : r[q]? = some (a, .inr (ci, fs))) (hn : narrow (ty k) v = v) (hfit : fits (ty k) v = true) (hl : k < fs.length) (kk : RW G M cc rm QF (pc + 3) L st (pre ++ r.set q (a, .inr (ci, fs.set k v))) cells slots) : RW G M cc rm QF pc L (v :: .ref a :: st) (pre ++ r) cells slots :=
  rPutF hd hf hg ht hfin hnm hdc (pre.length + q) (wget.trans he) hn hfit hl (by rw [wset]; exact kk)
theorem qPut {v : Value} (hd : decode cc pc = .ok (.putfield idx, 3)) (hf : fLk (mO M) idx ci k C T N) (ht : fTy C T N ty) (hfin : (T k).2.2.2 = false) (q : Nat) (he : r[q]? = some (a, .inr (ci, fs))) (hn : narrow (ty k) v = v) (hfit : fits (ty k) v = true) (hl : k < fs.length) (kk : RW G M cc rm QF (pc + 3) L st (pre ++ r.set q (a, .inr (ci, fs.set k v))) cells slots) : RW G M cc rm QF pc L (v :: .ref a :: st) (pre ++ r) cells slots :=
  rPut hd hf ht hfin (pre.length + q) (wget.trans he) hn hfit hl (by rw [wset]; exact kk)
theorem qGet {v : Value} (hd : decode cc pc = .ok (.getfield idx, 3)) (hf : fLk (mO M) idx ci k C T N) (q : Nat) (he : r[q]? = some (a, .inr (ci, fs))) (hv : fs[k]? = some v) (kk : RW G M cc rm QF (pc + 3) L (v :: st) (pre ++ r) cells slots) : RW G M cc rm QF pc L (.ref a :: st) (pre ++ r) cells slots :=
  rGet hd hf (pre.length + q) (wget.trans he) hv kk
theorem qIast {n : Nat} {f : Nat → Int32} {i : Nat} {x : Int32} (hd : decode cc pc = .ok (.iastore, 1)) (q : Nat) (he : r[q]? = some (a, .inl (gcy G 0, n, .inl f))) (hi : i < n) (hn : n < 2 ^ 31) (kk : RW G M cc rm QF (pc + 1) L st (pre ++ r.set q (a, .inl (gcy G 0, n, .inl (upd f i x)))) cells slots) : RW G M cc rm QF pc L (.int x :: .int (nI i) :: .ref a :: st) (pre ++ r) cells slots :=
  rIast hd (pre.length + q) (wget.trans he) (vp_in_nI hi hn) (by rw [wset, nI_clamp (by omega)]; exact kk)
theorem qAast {n b i : Nat} {f : Nat → Option Nat} {T : u_T} {N : Nat} (hd : decode cc pc = .ok (.aastore, 1)) (q qk : Nat) (he : r[q]? = some (a, .inl (gcy G 1, n, .inr (.inr (.inr (.inr f)))))) (hv : r[qk]? = some (b, .inr (ci, fs))) (hc : vwCl[ci]? = some (RX2, T, N)) (hi : i < n) (hn : n < 2 ^ 31) (kk : RW G M cc rm QF (pc + 1) L st (pre ++ r.set q (a, .inl (gcy G 1, n, .inr (.inr (.inr (.inr (va_up f i (some b)))))))) cells slots) : RW G M cc rm QF pc L (.ref b :: .int (nI i) :: .ref a :: st) (pre ++ r) cells slots :=
  rAast hd (pre.length + q) (pre.length + qk) (wget.trans he) (wget.trans hv) hc (vp_in_nI hi hn) (by rw [wset, nI_clamp (by omega)]; exact kk)
end gI
theorem hg_X4_9 : Cond.fieldLink RX4 9 (TX4 0).1 (TX4 0).2.1 (TX4 0).2.2.1 ∈ gWds := gMem (i := 67) (by decide +kernel) (by rfl)
theorem hg_X4_15 : Cond.fieldLink RX4 15 (TX4 1).1 (TX4 1).2.1 (TX4 1).2.2.1 ∈ gWds := gMem (i := 68) (by decide +kernel) (by rfl)
theorem hg_X5_9 : Cond.fieldLink RX5 9 (TX5 0).1 (TX5 0).2.1 (TX5 0).2.2.1 ∈ gWds := gMem (i := 108) (by decide +kernel) (by rfl)
theorem hg_X5_15 : Cond.fieldLink RX5 15 (TX5 1).1 (TX5 1).2.1 (TX5 1).2.2.1 ∈ gWds := gMem (i := 110) (by decide +kernel) (by rfl)
theorem hg_X1_9 : Cond.fieldLink RX1 9 (TX1 0).1 (TX1 0).2.1 (TX1 0).2.2.1 ∈ gWds := gMem (i := 44) (by decide +kernel) (by rfl)
theorem hg_X3_9 : Cond.fieldLink RX3 9 (TX3 0).1 (TX3 0).2.1 (TX3 0).2.2.1 ∈ gWds := gMem (i := 32) (by decide +kernel) (by rfl)
theorem hg_X2_21 : Cond.fieldLink RX2 21 (TX2 5).1 (TX2 5).2.1 (TX2 5).2.2.1 ∈ gWds := gMem (i := 132) (by decide +kernel) (by rfl)
theorem nk_X2_25 : Cond.classLink RX2 25 RX5 ∈ gWds := gMem (i := 102) (by decide +kernel) (by rfl)
theorem ni_X5 : Cond.instantiable RX5 3 ∈ gWds := gMem (i := 103) (by decide +kernel) (by rfl)
theorem nn_X5 : Cond.initialized RX5 ∈ gWds := gMem (i := 7) (by decide +kernel) (by rfl)
theorem nd_X5 : ∀ j, j < 3 → defaultValue (tyX5 j) = vp_V [.null, .null, .int 0] j := by decide +kernel
theorem hg_X2_30 : Cond.fieldLink RX2 30 (TX2 6).1 (TX2 6).2.1 (TX2 6).2.2.1 ∈ gWds := gMem (i := 134) (by decide +kernel) (by rfl)
theorem hg_X2_34 : Cond.fieldLink RX2 34 (TX2 7).1 (TX2 7).2.1 (TX2 7).2.2.1 ∈ gWds := gMem (i := 136) (by decide +kernel) (by rfl)
theorem nk_X0_9 : Cond.classLink RX0 9 RX4 ∈ gWds := gMem (i := 61) (by decide +kernel) (by rfl)
theorem ni_X4 : Cond.instantiable RX4 4 ∈ gWds := gMem (i := 62) (by decide +kernel) (by rfl)
theorem nn_X4 : Cond.initialized RX4 ∈ gWds := gMem (i := 5) (by decide +kernel) (by rfl)
theorem nd_X4 : ∀ j, j < 4 → defaultValue (tyX4 j) = vp_V [.null, .null, .int 0, .int 0] j := by decide +kernel
theorem hg_X0_12 : Cond.fieldLink RX0 12 (TX0 0).1 (TX0 0).2.1 (TX0 0).2.2.1 ∈ gWds := gMem (i := 81) (by decide +kernel) (by rfl)
theorem hg_X0_18 : Cond.fieldLink RX0 18 (TX0 1).1 (TX0 1).2.1 (TX0 1).2.2.1 ∈ gWds := gMem (i := 82) (by decide +kernel) (by rfl)
theorem hg_X0_21 : Cond.fieldLink RX0 21 (TX0 2).1 (TX0 2).2.1 (TX0 2).2.2.1 ∈ gWds := gMem (i := 83) (by decide +kernel) (by rfl)
theorem hg_X0_25 : Cond.fieldLink RX0 25 (TX0 3).1 (TX0 3).2.1 (TX0 3).2.2.1 ∈ gWds := gMem (i := 84) (by decide +kernel) (by rfl)
set_option maxRecDepth 100000 in
set_option maxHeartbeats 4000000 in
theorem i_X4 {G : gG} {pre : va_W} {a : Nat} : CT G mX4_init cX4_init (rmD 2 2 10) [.ref a] (pre ++ ([(a, .inr (4, [.null, .null, .int 0, .int 0]))] : va_W)) (fun v w => v = none ∧ ∃ q0 q1 : Nat, w = pre ++ ([(a, .inr (4, [.ref q0, .ref q1, .int 0, .int 0])), (q0, .inl (gcy G 0, 5, .inl (fun _ => 0))), (q1, .inl (gcy G 0, 5, .inl (fun _ => 0)))] : va_W)) (fun _ _ => False) := by
  refine CT.of rfl (by decide +kernel) (by intro v hv; simp only [List.mem_cons, List.not_mem_nil, or_false] at hv; rcases hv with rfl <;> rfl) (Nat.le_of_ble_eq_true rfl) ?_
  show RW G _ _ _ _ 0 [some (.ref a)] [] _ 0 0
  refine rAload_n dX4_init_0 rfl ?_
  refine rObjInit dX4_init_1 lo_X4_3 wd_oi wd_oc (Nat.le_of_ble_eq_true rfl) (Nat.le_of_ble_eq_true rfl) ?_
  refine rAload_n dX4_init_4 rfl ?_
  refine rIconst (v := nI 5) dX4_init_5 (by decide) ?_
  refine qNewI (N := 5) dX4_init_6 (by decide) (by decide) (by decide) (Nat.le_of_ble_eq_true rfl) (Nat.le_of_ble_eq_true rfl) (fun q0 => ?_)
  refine qPutF dX4_init_8 fl_X4_9 hg_X4_9 ft_X4 rfl rfl rfl 0 rfl rfl rfl (Nat.le_of_ble_eq_true rfl) ?_
  refine rAload_n dX4_init_11 rfl ?_
  refine rIconst (v := nI 5) dX4_init_12 (by decide) ?_
  refine qNewI (N := 5) dX4_init_13 (by decide) (by decide) (by decide) (Nat.le_of_ble_eq_true rfl) (Nat.le_of_ble_eq_true rfl) (fun q1 => ?_)
  refine qPutF dX4_init_15 fl_X4_15 hg_X4_15 ft_X4 rfl rfl rfl 0 rfl rfl rfl (Nat.le_of_ble_eq_true rfl) ?_
  exact rVret dX4_init_18 rfl (Nat.le_of_ble_eq_true rfl) (Nat.le_of_ble_eq_true rfl) ⟨rfl, q0, q1, rfl⟩
set_option maxRecDepth 100000 in
set_option maxHeartbeats 4000000 in
theorem i_X5_6 {G : gG} {pre : va_W} {a : Nat} : CT G mX5_init cX5_init (rmD 2 2 12) [.ref a, .int (nI 6)] (pre ++ ([(a, .inr (5, [.null, .null, .int 0]))] : va_W)) (fun v w => v = none ∧ ∃ q0 q1 : Nat, w = pre ++ ([(a, .inr (5, [.ref q0, .ref q1, .int 0])), (q0, .inl (gcy G 0, 6, .inl (fun _ => 0))), (q1, .inl (gcy G 0, 6, .inl (fun _ => 0)))] : va_W)) (fun _ _ => False) := by
  refine CT.of rfl (by decide +kernel) (by intro v hv; simp only [List.mem_cons, List.not_mem_nil, or_false] at hv; rcases hv with rfl | rfl <;> rfl) (Nat.le_of_ble_eq_true rfl) ?_
  show RW G _ _ _ _ 0 [some (.ref a), some (.int (nI 6))] [] _ 0 0
  refine rAload_n dX5_init_0 rfl ?_
  refine rObjInit dX5_init_1 lo_X5_3 wd_oi wd_oc (Nat.le_of_ble_eq_true rfl) (Nat.le_of_ble_eq_true rfl) ?_
  refine rAload_n dX5_init_4 rfl ?_
  refine rIload_n dX5_init_5 rfl ?_
  refine qNewI (N := 6) dX5_init_6 (by decide) (by decide) (by decide) (Nat.le_of_ble_eq_true rfl) (Nat.le_of_ble_eq_true rfl) (fun q0 => ?_)
  refine qPutF dX5_init_8 fl_X5_9 hg_X5_9 ft_X5 rfl rfl rfl 0 rfl rfl rfl (Nat.le_of_ble_eq_true rfl) ?_
  refine rAload_n dX5_init_11 rfl ?_
  refine rIload_n dX5_init_12 rfl ?_
  refine qNewI (N := 6) dX5_init_13 (by decide) (by decide) (by decide) (Nat.le_of_ble_eq_true rfl) (Nat.le_of_ble_eq_true rfl) (fun q1 => ?_)
  refine qPutF dX5_init_15 fl_X5_15 hg_X5_15 ft_X5 rfl rfl rfl 0 rfl rfl rfl (Nat.le_of_ble_eq_true rfl) ?_
  exact rVret dX5_init_18 rfl (Nat.le_of_ble_eq_true rfl) (Nat.le_of_ble_eq_true rfl) ⟨rfl, q0, q1, rfl⟩
set_option maxRecDepth 100000 in
set_option maxHeartbeats 4000000 in
theorem i_X5_5 {G : gG} {pre : va_W} {a : Nat} : CT G mX5_init cX5_init (rmD 2 2 12) [.ref a, .int (nI 5)] (pre ++ ([(a, .inr (5, [.null, .null, .int 0]))] : va_W)) (fun v w => v = none ∧ ∃ q0 q1 : Nat, w = pre ++ ([(a, .inr (5, [.ref q0, .ref q1, .int 0])), (q0, .inl (gcy G 0, 5, .inl (fun _ => 0))), (q1, .inl (gcy G 0, 5, .inl (fun _ => 0)))] : va_W)) (fun _ _ => False) := by
  refine CT.of rfl (by decide +kernel) (by intro v hv; simp only [List.mem_cons, List.not_mem_nil, or_false] at hv; rcases hv with rfl | rfl <;> rfl) (Nat.le_of_ble_eq_true rfl) ?_
  show RW G _ _ _ _ 0 [some (.ref a), some (.int (nI 5))] [] _ 0 0
  refine rAload_n dX5_init_0 rfl ?_
  refine rObjInit dX5_init_1 lo_X5_3 wd_oi wd_oc (Nat.le_of_ble_eq_true rfl) (Nat.le_of_ble_eq_true rfl) ?_
  refine rAload_n dX5_init_4 rfl ?_
  refine rIload_n dX5_init_5 rfl ?_
  refine qNewI (N := 5) dX5_init_6 (by decide) (by decide) (by decide) (Nat.le_of_ble_eq_true rfl) (Nat.le_of_ble_eq_true rfl) (fun q0 => ?_)
  refine qPutF dX5_init_8 fl_X5_9 hg_X5_9 ft_X5 rfl rfl rfl 0 rfl rfl rfl (Nat.le_of_ble_eq_true rfl) ?_
  refine rAload_n dX5_init_11 rfl ?_
  refine rIload_n dX5_init_12 rfl ?_
  refine qNewI (N := 5) dX5_init_13 (by decide) (by decide) (by decide) (Nat.le_of_ble_eq_true rfl) (Nat.le_of_ble_eq_true rfl) (fun q1 => ?_)
  refine qPutF dX5_init_15 fl_X5_15 hg_X5_15 ft_X5 rfl rfl rfl 0 rfl rfl rfl (Nat.le_of_ble_eq_true rfl) ?_
  exact rVret dX5_init_18 rfl (Nat.le_of_ble_eq_true rfl) (Nat.le_of_ble_eq_true rfl) ⟨rfl, q0, q1, rfl⟩
set_option maxRecDepth 100000 in
set_option maxHeartbeats 4000000 in
theorem i_X1 {G : gG} {pre : va_W} {a : Nat} : CT G mX1_init cX1_init (rmD 2 1 100) [.ref a] (pre ++ ([(a, .inr (1, [.null, .int 0, .int 0]))] : va_W)) (fun v w => v = none ∧ ∃ q0 : Nat, w = pre ++ ([(a, .inr (1, [.ref q0, .int 0, .int 0])), (q0, .inl (gcy G 0, 100, .inl (fun _ => 0)))] : va_W)) (fun _ _ => False) := by
  refine CT.of rfl (by decide +kernel) (by intro v hv; simp only [List.mem_cons, List.not_mem_nil, or_false] at hv; rcases hv with rfl <;> rfl) (Nat.le_of_ble_eq_true rfl) ?_
  show RW G _ _ _ _ 0 [some (.ref a)] [] _ 0 0
  refine rAload_n dX1_init_0 rfl ?_
  refine rObjInit dX1_init_1 lo_X1_3 wd_oi wd_oc (Nat.le_of_ble_eq_true rfl) (Nat.le_of_ble_eq_true rfl) ?_
  refine rAload_n dX1_init_4 rfl ?_
  refine rBipush (v := nI 100) dX1_init_5 (by decide) ?_
  refine qNewI (N := 100) dX1_init_7 (by decide) (by decide) (by decide) (Nat.le_of_ble_eq_true rfl) (Nat.le_of_ble_eq_true rfl) (fun q0 => ?_)
  refine qPutF dX1_init_9 fl_X1_9 hg_X1_9 ft_X1 rfl rfl rfl 0 rfl rfl rfl (Nat.le_of_ble_eq_true rfl) ?_
  exact rVret dX1_init_12 rfl (Nat.le_of_ble_eq_true rfl) (Nat.le_of_ble_eq_true rfl) ⟨rfl, q0, rfl⟩
set_option maxRecDepth 100000 in
set_option maxHeartbeats 4000000 in
theorem i_X3 {G : gG} {pre : va_W} {a : Nat} : CT G mX3_init cX3_init (rmD 2 1 9) [.ref a] (pre ++ ([(a, .inr (3, [.null]))] : va_W)) (fun v w => v = none ∧ ∃ q0 : Nat, w = pre ++ ([(a, .inr (3, [.ref q0])), (q0, .inl (gcy G 0, 9, .inl (upd (upd (upd (upd (upd (upd (upd (upd (upd (fun _ => 0) 0 (nI 9)) 1 (nI 9)) 2 (nI 9)) 3 (nI 9)) 4 (nI 9)) 5 (nI 9)) 6 (nI 9)) 7 (nI 9)) 8 (nI 9))))] : va_W)) (fun _ _ => False) := by
  refine CT.of rfl (by decide +kernel) (by intro v hv; simp only [List.mem_cons, List.not_mem_nil, or_false] at hv; rcases hv with rfl <;> rfl) (Nat.le_of_ble_eq_true rfl) ?_
  show RW G _ _ _ _ 0 [some (.ref a), none] [] _ 0 0
  refine rAload_n dX3_init_0 rfl ?_
  refine rObjInit dX3_init_1 lo_X3_3 wd_oi wd_oc (Nat.le_of_ble_eq_true rfl) (Nat.le_of_ble_eq_true rfl) ?_
  refine rAload_n dX3_init_4 rfl ?_
  refine rBipush (v := nI 9) dX3_init_5 (by decide) ?_
  refine qNewI (N := 9) dX3_init_7 (by decide) (by decide) (by decide) (Nat.le_of_ble_eq_true rfl) (Nat.le_of_ble_eq_true rfl) (fun q0 => ?_)
  refine qPutF dX3_init_9 fl_X3_9 hg_X3_9 ft_X3 rfl rfl rfl 0 rfl rfl rfl (Nat.le_of_ble_eq_true rfl) ?_
  refine rIconst (v := nI 0) dX3_init_12 (by decide) ?_
  refine rIstore_n dX3_init_13 (by decide) ?_
  refine rIload_n dX3_init_14 rfl ?_
  refine rBipush (v := nI 9) dX3_init_15 (by decide) ?_
  refine r_icmp_ge (tgt := 34) dX3_init_17 (by decide) (fun c => absurd c (by decide)) (fun c => ?_)
  refine rAload_n dX3_init_20 rfl ?_
  refine qGet dX3_init_21 fl_X3_9 0 rfl rfl ?_
  refine rIload_n dX3_init_24 rfl ?_
  refine rBipush (v := nI 9) dX3_init_25 (by decide) ?_
  refine qIast (i := 0) dX3_init_27 1 rfl (by decide) (by decide) ?_
  refine rIinc (v := nI 1) dX3_init_28 rfl (by rfl) (by decide) ?_
  refine rGoto (tgt := 14) dX3_init_31 (by decide) ?_
  refine rIload_n dX3_init_14 rfl ?_
  refine rBipush (v := nI 9) dX3_init_15 (by decide) ?_
  refine r_icmp_ge (tgt := 34) dX3_init_17 (by decide) (fun c => absurd c (by decide)) (fun c => ?_)
  refine rAload_n dX3_init_20 rfl ?_
  refine qGet dX3_init_21 fl_X3_9 0 rfl rfl ?_
  refine rIload_n dX3_init_24 rfl ?_
  refine rBipush (v := nI 9) dX3_init_25 (by decide) ?_
  refine qIast (i := 1) dX3_init_27 1 rfl (by decide) (by decide) ?_
  refine rIinc (v := nI 2) dX3_init_28 rfl (by rfl) (by decide) ?_
  refine rGoto (tgt := 14) dX3_init_31 (by decide) ?_
  refine rIload_n dX3_init_14 rfl ?_
  refine rBipush (v := nI 9) dX3_init_15 (by decide) ?_
  refine r_icmp_ge (tgt := 34) dX3_init_17 (by decide) (fun c => absurd c (by decide)) (fun c => ?_)
  refine rAload_n dX3_init_20 rfl ?_
  refine qGet dX3_init_21 fl_X3_9 0 rfl rfl ?_
  refine rIload_n dX3_init_24 rfl ?_
  refine rBipush (v := nI 9) dX3_init_25 (by decide) ?_
  refine qIast (i := 2) dX3_init_27 1 rfl (by decide) (by decide) ?_
  refine rIinc (v := nI 3) dX3_init_28 rfl (by rfl) (by decide) ?_
  refine rGoto (tgt := 14) dX3_init_31 (by decide) ?_
  refine rIload_n dX3_init_14 rfl ?_
  refine rBipush (v := nI 9) dX3_init_15 (by decide) ?_
  refine r_icmp_ge (tgt := 34) dX3_init_17 (by decide) (fun c => absurd c (by decide)) (fun c => ?_)
  refine rAload_n dX3_init_20 rfl ?_
  refine qGet dX3_init_21 fl_X3_9 0 rfl rfl ?_
  refine rIload_n dX3_init_24 rfl ?_
  refine rBipush (v := nI 9) dX3_init_25 (by decide) ?_
  refine qIast (i := 3) dX3_init_27 1 rfl (by decide) (by decide) ?_
  refine rIinc (v := nI 4) dX3_init_28 rfl (by rfl) (by decide) ?_
  refine rGoto (tgt := 14) dX3_init_31 (by decide) ?_
  refine rIload_n dX3_init_14 rfl ?_
  refine rBipush (v := nI 9) dX3_init_15 (by decide) ?_
  refine r_icmp_ge (tgt := 34) dX3_init_17 (by decide) (fun c => absurd c (by decide)) (fun c => ?_)
  refine rAload_n dX3_init_20 rfl ?_
  refine qGet dX3_init_21 fl_X3_9 0 rfl rfl ?_
  refine rIload_n dX3_init_24 rfl ?_
  refine rBipush (v := nI 9) dX3_init_25 (by decide) ?_
  refine qIast (i := 4) dX3_init_27 1 rfl (by decide) (by decide) ?_
  refine rIinc (v := nI 5) dX3_init_28 rfl (by rfl) (by decide) ?_
  refine rGoto (tgt := 14) dX3_init_31 (by decide) ?_
  refine rIload_n dX3_init_14 rfl ?_
  refine rBipush (v := nI 9) dX3_init_15 (by decide) ?_
  refine r_icmp_ge (tgt := 34) dX3_init_17 (by decide) (fun c => absurd c (by decide)) (fun c => ?_)
  refine rAload_n dX3_init_20 rfl ?_
  refine qGet dX3_init_21 fl_X3_9 0 rfl rfl ?_
  refine rIload_n dX3_init_24 rfl ?_
  refine rBipush (v := nI 9) dX3_init_25 (by decide) ?_
  refine qIast (i := 5) dX3_init_27 1 rfl (by decide) (by decide) ?_
  refine rIinc (v := nI 6) dX3_init_28 rfl (by rfl) (by decide) ?_
  refine rGoto (tgt := 14) dX3_init_31 (by decide) ?_
  refine rIload_n dX3_init_14 rfl ?_
  refine rBipush (v := nI 9) dX3_init_15 (by decide) ?_
  refine r_icmp_ge (tgt := 34) dX3_init_17 (by decide) (fun c => absurd c (by decide)) (fun c => ?_)
  refine rAload_n dX3_init_20 rfl ?_
  refine qGet dX3_init_21 fl_X3_9 0 rfl rfl ?_
  refine rIload_n dX3_init_24 rfl ?_
  refine rBipush (v := nI 9) dX3_init_25 (by decide) ?_
  refine qIast (i := 6) dX3_init_27 1 rfl (by decide) (by decide) ?_
  refine rIinc (v := nI 7) dX3_init_28 rfl (by rfl) (by decide) ?_
  refine rGoto (tgt := 14) dX3_init_31 (by decide) ?_
  refine rIload_n dX3_init_14 rfl ?_
  refine rBipush (v := nI 9) dX3_init_15 (by decide) ?_
  refine r_icmp_ge (tgt := 34) dX3_init_17 (by decide) (fun c => absurd c (by decide)) (fun c => ?_)
  refine rAload_n dX3_init_20 rfl ?_
  refine qGet dX3_init_21 fl_X3_9 0 rfl rfl ?_
  refine rIload_n dX3_init_24 rfl ?_
  refine rBipush (v := nI 9) dX3_init_25 (by decide) ?_
  refine qIast (i := 7) dX3_init_27 1 rfl (by decide) (by decide) ?_
  refine rIinc (v := nI 8) dX3_init_28 rfl (by rfl) (by decide) ?_
  refine rGoto (tgt := 14) dX3_init_31 (by decide) ?_
  refine rIload_n dX3_init_14 rfl ?_
  refine rBipush (v := nI 9) dX3_init_15 (by decide) ?_
  refine r_icmp_ge (tgt := 34) dX3_init_17 (by decide) (fun c => absurd c (by decide)) (fun c => ?_)
  refine rAload_n dX3_init_20 rfl ?_
  refine qGet dX3_init_21 fl_X3_9 0 rfl rfl ?_
  refine rIload_n dX3_init_24 rfl ?_
  refine rBipush (v := nI 9) dX3_init_25 (by decide) ?_
  refine qIast (i := 8) dX3_init_27 1 rfl (by decide) (by decide) ?_
  refine rIinc (v := nI 9) dX3_init_28 rfl (by rfl) (by decide) ?_
  refine rGoto (tgt := 14) dX3_init_31 (by decide) ?_
  refine rIload_n dX3_init_14 rfl ?_
  refine rBipush (v := nI 9) dX3_init_15 (by decide) ?_
  refine r_icmp_ge (tgt := 34) dX3_init_17 (by decide) (fun c => ?_) (fun c => absurd (by decide) c)
  exact rVret dX3_init_34 rfl (Nat.le_of_ble_eq_true rfl) (Nat.le_of_ble_eq_true rfl) ⟨rfl, q0, rfl⟩
set_option maxRecDepth 100000 in
set_option maxHeartbeats 4000000 in
theorem i_X2 {G : gG} {pre : va_W} {a : Nat} : CT G mX2_init cX2_init (rmD 3 8 50) [.ref a] (pre ++ ([(a, .inr (2, [.int 0, .int 0, .int 0, .int 0, .int 0, .null, .null, .null]))] : va_W)) (fun v w => v = none ∧ ∃ q0 q1 q2 q3 q4 q5 q6 : Nat, w = pre ++ ([(a, .inr (2, [.int (nI 10), .int (nI 1), .int (nI 20), .int 0, .int 0, .ref q0, .ref q1, .ref q4])), (q0, .inl (gcy G 0, 3, .inl (upd (upd (upd (fun _ => 0) 0 (-1)) 1 (-1)) 2 (-1)))), (q1, .inr (5, [.ref q2, .ref q3, .int 0])), (q2, .inl (gcy G 0, 6, .inl (fun _ => 0))), (q3, .inl (gcy G 0, 6, .inl (fun _ => 0))), (q4, .inr (5, [.ref q5, .ref q6, .int 0])), (q5, .inl (gcy G 0, 5, .inl (fun _ => 0))), (q6, .inl (gcy G 0, 5, .inl (fun _ => 0)))] : va_W)) (fun _ _ => False) := by
  refine CT.of rfl (by decide +kernel) (by intro v hv; simp only [List.mem_cons, List.not_mem_nil, or_false] at hv; rcases hv with rfl <;> rfl) (Nat.le_of_ble_eq_true rfl) ?_
  show RW G _ _ _ _ 0 [some (.ref a), none] [] _ 0 0
  refine rAload_n dX2_init_0 rfl ?_
  refine rObjInit dX2_init_1 lo_X2_3 wd_oi wd_oc (Nat.le_of_ble_eq_true rfl) (Nat.le_of_ble_eq_true rfl) ?_
  refine rAload_n dX2_init_4 rfl ?_
  refine rBipush (v := nI 10) dX2_init_5 (by decide) ?_
  refine qPut dX2_init_7 fl_X2_9 ft_X2 rfl 0 rfl rfl rfl (Nat.le_of_ble_eq_true rfl) ?_
  refine rAload_n dX2_init_10 rfl ?_
  refine rIconst (v := nI 1) dX2_init_11 (by decide) ?_
  refine qPut dX2_init_12 fl_X2_15 ft_X2 rfl 0 rfl rfl rfl (Nat.le_of_ble_eq_true rfl) ?_
  refine rAload_n dX2_init_15 rfl ?_
  refine rBipush (v := nI 20) dX2_init_16 (by decide) ?_
  refine qPut dX2_init_18 fl_X2_18 ft_X2 rfl 0 rfl rfl rfl (Nat.le_of_ble_eq_true rfl) ?_
  refine rAload_n dX2_init_21 rfl ?_
  refine rIconst (v := nI 3) dX2_init_22 (by decide) ?_
  refine qNewI (N := 3) dX2_init_23 (by decide) (by decide) (by decide) (Nat.le_of_ble_eq_true rfl) (Nat.le_of_ble_eq_true rfl) (fun q0 => ?_)
  refine qPutF dX2_init_25 fl_X2_21 hg_X2_21 ft_X2 rfl rfl rfl 0 rfl rfl rfl (Nat.le_of_ble_eq_true rfl) ?_
  refine rAload_n dX2_init_28 rfl ?_
  refine qNew (ci := 5) (fs := [.null, .null, .int 0]) dX2_init_29 rfl in_X5 nk_X2_25 ni_X5 nn_X5 ft_X5 nd_X5 (Nat.le_of_ble_eq_true rfl) (Nat.le_of_ble_eq_true rfl) (fun q1 => ?_)
  refine rDup dX2_init_32 rfl ?_
  refine rBipush (v := nI 6) dX2_init_33 (by decide) ?_
  refine rWs (ws' := (pre ++ ([(a, .inr (2, [.int (nI 10), .int (nI 1), .int (nI 20), .int 0, .int 0, .ref q0, .null, .null])), (q0, .inl (gcy G 0, 3, .inl (fun _ => 0)))] : va_W)) ++ ([(q1, .inr (5, [.null, .null, .int 0]))] : va_W)) ((List.append_assoc pre ([(a, .inr (2, [.int (nI 10), .int (nI 1), .int (nI 20), .int 0, .int 0, .ref q0, .null, .null])), (q0, .inl (gcy G 0, 3, .inl (fun _ => 0)))] : va_W) ([(q1, .inr (5, [.null, .null, .int 0]))] : va_W)).symm) ?_
  refine rCall (mc := (rmD 2 2 12).cells) (ms := (rmD 2 2 12).slots) (rest := [.ref q1, .ref a]) (rRunI (M' := mX5_init) (As := [.int (nI 6)]) dX2_init_35 rfl rfl rfl mk_X5_init mi_X5_init ll_X2_27 ⟨(Nat.le_of_ble_eq_true rfl), (Nat.le_of_ble_eq_true rfl)⟩ rfl (Nat.le_of_ble_eq_true rfl) (Nat.le_of_ble_eq_true rfl) (Nat.le_of_ble_eq_true rfl) i_X5_6) (fun v w hv => ?_)
  obtain ⟨rfl, q2, q3, rfl⟩ := hv
  refine rWs (ws' := pre ++ ([(a, .inr (2, [.int (nI 10), .int (nI 1), .int (nI 20), .int 0, .int 0, .ref q0, .null, .null])), (q0, .inl (gcy G 0, 3, .inl (fun _ => 0))), (q1, .inr (5, [.ref q2, .ref q3, .int 0])), (q2, .inl (gcy G 0, 6, .inl (fun _ => 0))), (q3, .inl (gcy G 0, 6, .inl (fun _ => 0)))] : va_W)) (List.append_assoc pre ([(a, .inr (2, [.int (nI 10), .int (nI 1), .int (nI 20), .int 0, .int 0, .ref q0, .null, .null])), (q0, .inl (gcy G 0, 3, .inl (fun _ => 0)))] : va_W) ([(q1, .inr (5, [.ref q2, .ref q3, .int 0])), (q2, .inl (gcy G 0, 6, .inl (fun _ => 0))), (q3, .inl (gcy G 0, 6, .inl (fun _ => 0)))] : va_W)) ?_
  refine qPutF dX2_init_38 fl_X2_30 hg_X2_30 ft_X2 rfl rfl rfl 0 rfl rfl rfl (Nat.le_of_ble_eq_true rfl) ?_
  refine rAload_n dX2_init_41 rfl ?_
  refine qNew (ci := 5) (fs := [.null, .null, .int 0]) dX2_init_42 rfl in_X5 nk_X2_25 ni_X5 nn_X5 ft_X5 nd_X5 (Nat.le_of_ble_eq_true rfl) (Nat.le_of_ble_eq_true rfl) (fun q4 => ?_)
  refine rDup dX2_init_45 rfl ?_
  refine rIconst (v := nI 5) dX2_init_46 (by decide) ?_
  refine rWs (ws' := (pre ++ ([(a, .inr (2, [.int (nI 10), .int (nI 1), .int (nI 20), .int 0, .int 0, .ref q0, .ref q1, .null])), (q0, .inl (gcy G 0, 3, .inl (fun _ => 0))), (q1, .inr (5, [.ref q2, .ref q3, .int 0])), (q2, .inl (gcy G 0, 6, .inl (fun _ => 0))), (q3, .inl (gcy G 0, 6, .inl (fun _ => 0)))] : va_W)) ++ ([(q4, .inr (5, [.null, .null, .int 0]))] : va_W)) ((List.append_assoc pre ([(a, .inr (2, [.int (nI 10), .int (nI 1), .int (nI 20), .int 0, .int 0, .ref q0, .ref q1, .null])), (q0, .inl (gcy G 0, 3, .inl (fun _ => 0))), (q1, .inr (5, [.ref q2, .ref q3, .int 0])), (q2, .inl (gcy G 0, 6, .inl (fun _ => 0))), (q3, .inl (gcy G 0, 6, .inl (fun _ => 0)))] : va_W) ([(q4, .inr (5, [.null, .null, .int 0]))] : va_W)).symm) ?_
  refine rCall (mc := (rmD 2 2 12).cells) (ms := (rmD 2 2 12).slots) (rest := [.ref q4, .ref a]) (rRunI (M' := mX5_init) (As := [.int (nI 5)]) dX2_init_47 rfl rfl rfl mk_X5_init mi_X5_init ll_X2_27 ⟨(Nat.le_of_ble_eq_true rfl), (Nat.le_of_ble_eq_true rfl)⟩ rfl (Nat.le_of_ble_eq_true rfl) (Nat.le_of_ble_eq_true rfl) (Nat.le_of_ble_eq_true rfl) i_X5_5) (fun v w hv => ?_)
  obtain ⟨rfl, q5, q6, rfl⟩ := hv
  refine rWs (ws' := pre ++ ([(a, .inr (2, [.int (nI 10), .int (nI 1), .int (nI 20), .int 0, .int 0, .ref q0, .ref q1, .null])), (q0, .inl (gcy G 0, 3, .inl (fun _ => 0))), (q1, .inr (5, [.ref q2, .ref q3, .int 0])), (q2, .inl (gcy G 0, 6, .inl (fun _ => 0))), (q3, .inl (gcy G 0, 6, .inl (fun _ => 0))), (q4, .inr (5, [.ref q5, .ref q6, .int 0])), (q5, .inl (gcy G 0, 5, .inl (fun _ => 0))), (q6, .inl (gcy G 0, 5, .inl (fun _ => 0)))] : va_W)) (List.append_assoc pre ([(a, .inr (2, [.int (nI 10), .int (nI 1), .int (nI 20), .int 0, .int 0, .ref q0, .ref q1, .null])), (q0, .inl (gcy G 0, 3, .inl (fun _ => 0))), (q1, .inr (5, [.ref q2, .ref q3, .int 0])), (q2, .inl (gcy G 0, 6, .inl (fun _ => 0))), (q3, .inl (gcy G 0, 6, .inl (fun _ => 0)))] : va_W) ([(q4, .inr (5, [.ref q5, .ref q6, .int 0])), (q5, .inl (gcy G 0, 5, .inl (fun _ => 0))), (q6, .inl (gcy G 0, 5, .inl (fun _ => 0)))] : va_W)) ?_
  refine qPutF dX2_init_50 fl_X2_34 hg_X2_34 ft_X2 rfl rfl rfl 0 rfl rfl rfl (Nat.le_of_ble_eq_true rfl) ?_
  refine rIconst (v := nI 0) dX2_init_53 (by decide) ?_
  refine rIstore_n dX2_init_54 (by decide) ?_
  refine rIload_n dX2_init_55 rfl ?_
  refine rIconst (v := nI 3) dX2_init_56 (by decide) ?_
  refine r_icmp_ge (tgt := 73) dX2_init_57 (by decide) (fun c => absurd c (by decide)) (fun c => ?_)
  refine rAload_n dX2_init_60 rfl ?_
  refine qGet dX2_init_61 fl_X2_21 0 rfl rfl ?_
  refine rIload_n dX2_init_64 rfl ?_
  refine rIconst (v := -1) dX2_init_65 (by decide) ?_
  refine qIast (i := 0) dX2_init_66 1 rfl (by decide) (by decide) ?_
  refine rIinc (v := nI 1) dX2_init_67 rfl (by rfl) (by decide) ?_
  refine rGoto (tgt := 55) dX2_init_70 (by decide) ?_
  refine rIload_n dX2_init_55 rfl ?_
  refine rIconst (v := nI 3) dX2_init_56 (by decide) ?_
  refine r_icmp_ge (tgt := 73) dX2_init_57 (by decide) (fun c => absurd c (by decide)) (fun c => ?_)
  refine rAload_n dX2_init_60 rfl ?_
  refine qGet dX2_init_61 fl_X2_21 0 rfl rfl ?_
  refine rIload_n dX2_init_64 rfl ?_
  refine rIconst (v := -1) dX2_init_65 (by decide) ?_
  refine qIast (i := 1) dX2_init_66 1 rfl (by decide) (by decide) ?_
  refine rIinc (v := nI 2) dX2_init_67 rfl (by rfl) (by decide) ?_
  refine rGoto (tgt := 55) dX2_init_70 (by decide) ?_
  refine rIload_n dX2_init_55 rfl ?_
  refine rIconst (v := nI 3) dX2_init_56 (by decide) ?_
  refine r_icmp_ge (tgt := 73) dX2_init_57 (by decide) (fun c => absurd c (by decide)) (fun c => ?_)
  refine rAload_n dX2_init_60 rfl ?_
  refine qGet dX2_init_61 fl_X2_21 0 rfl rfl ?_
  refine rIload_n dX2_init_64 rfl ?_
  refine rIconst (v := -1) dX2_init_65 (by decide) ?_
  refine qIast (i := 2) dX2_init_66 1 rfl (by decide) (by decide) ?_
  refine rIinc (v := nI 3) dX2_init_67 rfl (by rfl) (by decide) ?_
  refine rGoto (tgt := 55) dX2_init_70 (by decide) ?_
  refine rIload_n dX2_init_55 rfl ?_
  refine rIconst (v := nI 3) dX2_init_56 (by decide) ?_
  refine r_icmp_ge (tgt := 73) dX2_init_57 (by decide) (fun c => ?_) (fun c => absurd (by decide) c)
  exact rVret dX2_init_73 rfl (Nat.le_of_ble_eq_true rfl) (Nat.le_of_ble_eq_true rfl) ⟨rfl, q0, q1, q2, q3, q4, q5, q6, rfl⟩
set_option maxRecDepth 100000 in
set_option maxHeartbeats 4000000 in
theorem i_X0 {G : gG} {pre : va_W} {a : Nat} : CT G mX0_init cX0_init (rmD 3 10 200) [.ref a] (pre ++ ([(a, .inr (0, [.null, .null, .null, .null, .int 0]))] : va_W)) (fun v w => v = none ∧ ∃ q0 q1 q2 q3 q4 q5 q6 q7 : Nat, w = pre ++ ([(a, .inr (0, [.ref q0, .ref q3, .ref q6, .ref q7, .int 0])), (q0, .inr (4, [.ref q1, .ref q2, .int 0, .int 0])), (q1, .inl (gcy G 0, 5, .inl (fun _ => 0))), (q2, .inl (gcy G 0, 5, .inl (fun _ => 0))), (q3, .inr (4, [.ref q4, .ref q5, .int 0, .int 0])), (q4, .inl (gcy G 0, 5, .inl (fun _ => 0))), (q5, .inl (gcy G 0, 5, .inl (fun _ => 0))), (q6, .inl (gcy G 0, 60, .inl (fun _ => 0))), (q7, .inl (gcy G 0, 60, .inl (fun _ => 0)))] : va_W)) (fun _ _ => False) := by
  refine CT.of rfl (by decide +kernel) (by intro v hv; simp only [List.mem_cons, List.not_mem_nil, or_false] at hv; rcases hv with rfl <;> rfl) (Nat.le_of_ble_eq_true rfl) ?_
  show RW G _ _ _ _ 0 [some (.ref a)] [] _ 0 0
  refine rAload_n dX0_init_0 rfl ?_
  refine rObjInit dX0_init_1 lo_X0_3 wd_oi wd_oc (Nat.le_of_ble_eq_true rfl) (Nat.le_of_ble_eq_true rfl) ?_
  refine rAload_n dX0_init_4 rfl ?_
  refine qNew (ci := 4) (fs := [.null, .null, .int 0, .int 0]) dX0_init_5 rfl in_X4 nk_X0_9 ni_X4 nn_X4 ft_X4 nd_X4 (Nat.le_of_ble_eq_true rfl) (Nat.le_of_ble_eq_true rfl) (fun q0 => ?_)
  refine rDup dX0_init_8 rfl ?_
  refine rWs (ws' := (pre ++ ([(a, .inr (0, [.null, .null, .null, .null, .int 0]))] : va_W)) ++ ([(q0, .inr (4, [.null, .null, .int 0, .int 0]))] : va_W)) ((List.append_assoc pre ([(a, .inr (0, [.null, .null, .null, .null, .int 0]))] : va_W) ([(q0, .inr (4, [.null, .null, .int 0, .int 0]))] : va_W)).symm) ?_
  refine rCall (mc := (rmD 2 2 10).cells) (ms := (rmD 2 2 10).slots) (rest := [.ref q0, .ref a]) (rRunI (M' := mX4_init) (As := []) dX0_init_9 rfl rfl rfl mk_X4_init mi_X4_init ll_X0_11 ⟨(Nat.le_of_ble_eq_true rfl), (Nat.le_of_ble_eq_true rfl)⟩ rfl (Nat.le_of_ble_eq_true rfl) (Nat.le_of_ble_eq_true rfl) (Nat.le_of_ble_eq_true rfl) i_X4) (fun v w hv => ?_)
  obtain ⟨rfl, q1, q2, rfl⟩ := hv
  refine rWs (ws' := pre ++ ([(a, .inr (0, [.null, .null, .null, .null, .int 0])), (q0, .inr (4, [.ref q1, .ref q2, .int 0, .int 0])), (q1, .inl (gcy G 0, 5, .inl (fun _ => 0))), (q2, .inl (gcy G 0, 5, .inl (fun _ => 0)))] : va_W)) (List.append_assoc pre ([(a, .inr (0, [.null, .null, .null, .null, .int 0]))] : va_W) ([(q0, .inr (4, [.ref q1, .ref q2, .int 0, .int 0])), (q1, .inl (gcy G 0, 5, .inl (fun _ => 0))), (q2, .inl (gcy G 0, 5, .inl (fun _ => 0)))] : va_W)) ?_
  refine qPutF dX0_init_12 fl_X0_12 hg_X0_12 ft_X0 rfl rfl rfl 0 rfl rfl rfl (Nat.le_of_ble_eq_true rfl) ?_
  refine rAload_n dX0_init_15 rfl ?_
  refine qNew (ci := 4) (fs := [.null, .null, .int 0, .int 0]) dX0_init_16 rfl in_X4 nk_X0_9 ni_X4 nn_X4 ft_X4 nd_X4 (Nat.le_of_ble_eq_true rfl) (Nat.le_of_ble_eq_true rfl) (fun q3 => ?_)
  refine rDup dX0_init_19 rfl ?_
  refine rWs (ws' := (pre ++ ([(a, .inr (0, [.ref q0, .null, .null, .null, .int 0])), (q0, .inr (4, [.ref q1, .ref q2, .int 0, .int 0])), (q1, .inl (gcy G 0, 5, .inl (fun _ => 0))), (q2, .inl (gcy G 0, 5, .inl (fun _ => 0)))] : va_W)) ++ ([(q3, .inr (4, [.null, .null, .int 0, .int 0]))] : va_W)) ((List.append_assoc pre ([(a, .inr (0, [.ref q0, .null, .null, .null, .int 0])), (q0, .inr (4, [.ref q1, .ref q2, .int 0, .int 0])), (q1, .inl (gcy G 0, 5, .inl (fun _ => 0))), (q2, .inl (gcy G 0, 5, .inl (fun _ => 0)))] : va_W) ([(q3, .inr (4, [.null, .null, .int 0, .int 0]))] : va_W)).symm) ?_
  refine rCall (mc := (rmD 2 2 10).cells) (ms := (rmD 2 2 10).slots) (rest := [.ref q3, .ref a]) (rRunI (M' := mX4_init) (As := []) dX0_init_20 rfl rfl rfl mk_X4_init mi_X4_init ll_X0_11 ⟨(Nat.le_of_ble_eq_true rfl), (Nat.le_of_ble_eq_true rfl)⟩ rfl (Nat.le_of_ble_eq_true rfl) (Nat.le_of_ble_eq_true rfl) (Nat.le_of_ble_eq_true rfl) i_X4) (fun v w hv => ?_)
  obtain ⟨rfl, q4, q5, rfl⟩ := hv
  refine rWs (ws' := pre ++ ([(a, .inr (0, [.ref q0, .null, .null, .null, .int 0])), (q0, .inr (4, [.ref q1, .ref q2, .int 0, .int 0])), (q1, .inl (gcy G 0, 5, .inl (fun _ => 0))), (q2, .inl (gcy G 0, 5, .inl (fun _ => 0))), (q3, .inr (4, [.ref q4, .ref q5, .int 0, .int 0])), (q4, .inl (gcy G 0, 5, .inl (fun _ => 0))), (q5, .inl (gcy G 0, 5, .inl (fun _ => 0)))] : va_W)) (List.append_assoc pre ([(a, .inr (0, [.ref q0, .null, .null, .null, .int 0])), (q0, .inr (4, [.ref q1, .ref q2, .int 0, .int 0])), (q1, .inl (gcy G 0, 5, .inl (fun _ => 0))), (q2, .inl (gcy G 0, 5, .inl (fun _ => 0)))] : va_W) ([(q3, .inr (4, [.ref q4, .ref q5, .int 0, .int 0])), (q4, .inl (gcy G 0, 5, .inl (fun _ => 0))), (q5, .inl (gcy G 0, 5, .inl (fun _ => 0)))] : va_W)) ?_
  refine qPutF dX0_init_23 fl_X0_18 hg_X0_18 ft_X0 rfl rfl rfl 0 rfl rfl rfl (Nat.le_of_ble_eq_true rfl) ?_
  refine rAload_n dX0_init_26 rfl ?_
  refine rBipush (v := nI 60) dX0_init_27 (by decide) ?_
  refine qNewI (N := 60) dX0_init_29 (by decide) (by decide) (by decide) (Nat.le_of_ble_eq_true rfl) (Nat.le_of_ble_eq_true rfl) (fun q6 => ?_)
  refine qPutF dX0_init_31 fl_X0_21 hg_X0_21 ft_X0 rfl rfl rfl 0 rfl rfl rfl (Nat.le_of_ble_eq_true rfl) ?_
  refine rAload_n dX0_init_34 rfl ?_
  refine rBipush (v := nI 60) dX0_init_35 (by decide) ?_
  refine qNewI (N := 60) dX0_init_37 (by decide) (by decide) (by decide) (Nat.le_of_ble_eq_true rfl) (Nat.le_of_ble_eq_true rfl) (fun q7 => ?_)
  refine qPutF dX0_init_39 fl_X0_25 hg_X0_25 ft_X0 rfl rfl rfl 0 rfl rfl rfl (Nat.le_of_ble_eq_true rfl) ?_
  exact rVret dX0_init_42 rfl (Nat.le_of_ble_eq_true rfl) (Nat.le_of_ble_eq_true rfl) ⟨rfl, q0, q1, q2, q3, q4, q5, q6, q7, rfl⟩
