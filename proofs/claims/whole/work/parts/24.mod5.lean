/-! the reference: blows and fights (by program) -/
def mside (s : sgT) (m d n t : Nat) (hh : Nat → Int32) : Prop := s (m + 13) d = nI n ∧ s (m + 14) d = nI t ∧ ∀ i, i < n → s (m + 15) (5 * d + i) = hh i
theorem mside_keep {s s' : sgT} {m d n t : Nat} {hh : Nat → Int32} (h : mside s m d n t hh) (h0 : s' (m + 13) d = s (m + 13) d) (h1 : s' (m + 14) d = s (m + 14) d) (h2 : ∀ i, i < n → s' (m + 15) (5 * d + i) = s (m + 15) (5 * d + i)) : mside s' m d n t hh :=
  ⟨h0.trans h.1, h1.trans h.2.1, fun i hi => (h2 i hi).trans (h.2.2 i hi)⟩
set_option maxRecDepth 100000 in
set_option maxHeartbeats 4000000 in
theorem c_X7_blowOf {G : gG} {V : wV} {lo : Nat → Int64} {m : Nat} (hm : modAt V m) {s : sgT} {p q : Nat} {l : List Nat} (hr : mrow s (m + 11) (m + 12) p 5 l) (hl : l.length ≤ 5) (ho : okR l) (hp : p < 4) (hq : q < l.length) : CSp G V mX7_blowOf cX7_blowOf (rmD 2 0 0) [.ref (ad V m), .int (nI p), .int (nI q)] s lo (fun v => v = nI (strN l (l.getD q 0))) (fun _ => False) := by
  refine CSp.of (L := [some (.ref (ad V m)), some (.int (nI p)), some (.int (nI q)), none, none, none, none, none]) rfl (by decide +kernel) rfl (Nat.le_of_ble_eq_true rfl) rfl ?_
  obtain ⟨u, hu⟩ : ∃ u, u = l.getD q 0 := ⟨_, rfl⟩
  have hu9 : okU u := hu ▸ ho q hq
  have hu90 := okU_lt hu9
  have hu0 := hu9.1
  have q1 := hr.2 q hq
  rw [← hu] at q1
  rw [← hu]
  refine rAload_n dX7_blowOf_0 rfl ?_
  refine sGetR dX7_blowOf_1 fl_X7_44 hm.1 (by decide) rfl ?_
  refine rIconst (v := (nI (5))) dX7_blowOf_4 (by decide) ?_
  refine rIload_n dX7_blowOf_5 rfl ?_
  refine nImul dX7_blowOf_6 ?_
  refine rIload_n dX7_blowOf_7 rfl ?_
  refine nIadd dX7_blowOf_8 ?_
  refine nIald (v := (nI (u))) dX7_blowOf_9 hm.2.2.2.2.2.2.2.2.2.2.2.2.1 (by omega) (by omega) (by rw [q1]) ?_
  refine rIstore_n dX7_blowOf_10 (by decide) ?_
  refine rIconst (v := (nI (0))) dX7_blowOf_11 (by decide) ?_
  refine rIstore dX7_blowOf_12 (by decide) ?_
  refine rIload_n dX7_blowOf_14 rfl ?_
  refine rBipush (v := (nI (10))) dX7_blowOf_15 (by decide) ?_
  refine nIdiv dX7_blowOf_17 (by omega) (by decide) (by decide) ?_
  refine rIconst (v := (nI (3))) dX7_blowOf_18 (by decide) ?_
  refine nIrem dX7_blowOf_19 (by omega) (by decide) (by decide) ?_
  refine tTop (w := (nI (u / 10 % 3 + 3 * 0))) rfl ?_
  refine rIstore dX7_blowOf_20 (by decide) ?_
  refine loopW (σ := Unit) (3) (fun t _ => [some (.ref (ad V m)), some (.int (nI p)), some (.int (nI q)), some (.int (nI u)), some (.int (nI (kinT l (u / 10) t))), some (.int (nI (u / 10 % 3 + 3 * t))), none, none]) (fun t _ => s) (fun t _ => True) (0) () (by omega) trivial (fun t _ ht htnv th => ?_)
  refine rIload dX7_blowOf_22 rfl ?_
  refine rBipush (v := (nI (9))) dX7_blowOf_24 (by decide) ?_
  refine r_icmp_ge (tgt := 113) dX7_blowOf_26 (by decide) (fun c_26 => ?_) (fun c_26 => ?_)
  · have c_26 : 9 ≤ (u / 10 % 3 + 3 * t) := (nI_leI (by omega) (by omega)).mp c_26
    have e : t = 3 := by omega
    subst e
    refine rIconst (v := (nI (2))) dX7_blowOf_113 (by decide) ?_
    refine rIload_n dX7_blowOf_114 rfl ?_
    refine rBipush (v := (nI (10))) dX7_blowOf_115 (by decide) ?_
    refine nIdiv dX7_blowOf_117 (by omega) (by decide) (by decide) ?_
    refine sCallSp (M' := mX7_cost) (rm' := rmD 1 0 0) (As := [.int (nI (u / 10))]) (rest := [.int (nI 2)]) dX7_blowOf_118 rfl mk_X7_cost ms_X7_cost ll_X7_81 ⟨(Nat.le_of_ble_eq_true rfl), (Nat.le_of_ble_eq_true rfl)⟩ rfl (Nat.le_of_ble_eq_true rfl) (Nat.le_of_ble_eq_true rfl) (c_X7_cost (by omega)) rfl (Nat.le_of_ble_eq_true rfl) (fun vc ec => ?_)
    refine tTop (w := (nI (cst (u / 10)))) ec ?_
    refine nImul dX7_blowOf_121 ?_
    refine rIload_n dX7_blowOf_122 rfl ?_
    refine rBipush (v := (nI (10))) dX7_blowOf_123 (by decide) ?_
    refine nIrem dX7_blowOf_125 (by omega) (by decide) (by decide) ?_
    refine nImul dX7_blowOf_126 ?_
    refine rIload dX7_blowOf_127 rfl ?_
    refine nIadd dX7_blowOf_129 ?_
    exact sIret dX7_blowOf_130 rfl rfl (Nat.le_of_ble_eq_true rfl) (Nat.le_of_ble_eq_true rfl) ⟨_, rfl, rfl, (by rw [kinT_3]; rfl)⟩
  · have c_26 : ¬ (9 ≤ (u / 10 % 3 + 3 * t)) := fun h => c_26 ((nI_leI (by omega) (by omega)).mpr h)
    have hz := th (by omega) () trivial
    simp only [kinT] at hz
    rw [show u / 10 % 3 + 3 * (t + 1) = u / 10 % 3 + 3 * t + 3 by omega] at hz
    refine rIconst (v := (nI (0))) dX7_blowOf_29 (by decide) ?_
    refine rIstore dX7_blowOf_30 (by decide) ?_
    refine rIconst (v := (nI (0))) dX7_blowOf_32 (by decide) ?_
    refine rIstore dX7_blowOf_33 (by decide) ?_
    refine loopW (σ := Nat) (l.length) (fun i x => [some (.ref (ad V m)), some (.int (nI p)), some (.int (nI q)), some (.int (nI u)), some (.int (nI (kinT l (u / 10) t))), some (.int (nI (u / 10 % 3 + 3 * t))), some (.int (nI x)), some (.int (nI i))]) (fun i x => s) (fun i x => x < 2 ∧ (x = 1 ↔ hKb (l.take i) (u / 10 % 3 + 3 * t) = true)) (0) 0 (by omega) ⟨by decide, by simp [hKb]⟩ (fun i x hi hinv ih => ?_)
    obtain ⟨hx, hxe⟩ := hinv
    refine rIload dX7_blowOf_35 rfl ?_
    refine rAload_n dX7_blowOf_37 rfl ?_
    refine sGetR dX7_blowOf_38 fl_X7_41 hm.1 (by decide) rfl ?_
    refine rIload_n dX7_blowOf_41 rfl ?_
    refine nIald (v := (nI (l.length))) dX7_blowOf_42 hm.2.2.2.2.2.2.2.2.2.2.2.1 (by omega) (by omega) (by rw [hr.1]) ?_
    refine r_icmp_ge (tgt := 83) dX7_blowOf_43 (by decide) (fun c_43 => ?_) (fun c_43 => ?_)
    · have c_43 : (l.length) ≤ i := (nI_leI (by omega) (by omega)).mp c_43
      have e : i = l.length := by omega
      subst e
      rw [List.take_length] at hxe
      refine rIload dX7_blowOf_83 rfl ?_
      refine rIload dX7_blowOf_85 rfl ?_
      refine r_if_eq (tgt := 103) dX7_blowOf_87 (by decide) (fun c_87 => ?_) (fun c_87 => ?_)
      · have c_87 : x = 0 := (nz_eq (by omega)).mp c_87
        rw [if_neg (fun z => absurd (hxe.mpr z.2) (by omega))] at hz
        refine rIconst (v := (nI (0))) dX7_blowOf_103 (by decide) ?_
        refine nIadd dX7_blowOf_104 ?_
        refine rIstore dX7_blowOf_105 (by decide) ?_
        refine rIinc (v := (nI (u / 10 % 3 + 3 * t + 3))) dX7_blowOf_107 rfl (by first | exact nI_add _ _ | rfl) (by decide) ?_
        refine rGoto (tgt := 22) dX7_blowOf_110 (by decide) ?_
        refine rForget (L := [some (.ref (ad V m)), some (.int (nI p)), some (.int (nI q)), some (.int (nI u)), some (.int (nI ((kinT l (u / 10) t) + 0))), some (.int (nI (u / 10 % 3 + 3 * t + 3))), some (.int (nI x)), some (.int (nI (l.length)))]) (L' := [some (.ref (ad V m)), some (.int (nI p)), some (.int (nI q)), some (.int (nI u)), some (.int (nI ((kinT l (u / 10) t) + 0))), some (.int (nI (u / 10 % 3 + 3 * t + 3))), none, none]) (by exact ⟨rfl, ⟨rfl, ⟨rfl, ⟨rfl, ⟨rfl, ⟨rfl, trivial⟩⟩⟩⟩⟩⟩) ?_
        exact hz
      · have c_87 : ¬ (x = 0) := fun h => c_87 ((nz_eq (by omega)).mpr h)
        refine rIload dX7_blowOf_90 rfl ?_
        refine rIload_n dX7_blowOf_92 rfl ?_
        refine rBipush (v := (nI (10))) dX7_blowOf_93 (by decide) ?_
        refine nIdiv dX7_blowOf_95 (by omega) (by decide) (by decide) ?_
        refine r_icmp_eq (tgt := 103) dX7_blowOf_96 (by decide) (fun c_96 => ?_) (fun c_96 => ?_)
        · have c_96 : (u / 10 % 3 + 3 * t) = (u / 10) := (nI_eq (by omega) (by omega)).mp c_96
          rw [if_neg (fun z => z.1 c_96)] at hz
          refine rIconst (v := (nI (0))) dX7_blowOf_103 (by decide) ?_
          refine nIadd dX7_blowOf_104 ?_
          refine rIstore dX7_blowOf_105 (by decide) ?_
          refine rIinc (v := (nI (u / 10 % 3 + 3 * t + 3))) dX7_blowOf_107 rfl (by first | exact nI_add _ _ | rfl) (by decide) ?_
          refine rGoto (tgt := 22) dX7_blowOf_110 (by decide) ?_
          refine rForget (L := [some (.ref (ad V m)), some (.int (nI p)), some (.int (nI q)), some (.int (nI u)), some (.int (nI ((kinT l (u / 10) t) + 0))), some (.int (nI (u / 10 % 3 + 3 * t + 3))), some (.int (nI x)), some (.int (nI (l.length)))]) (L' := [some (.ref (ad V m)), some (.int (nI p)), some (.int (nI q)), some (.int (nI u)), some (.int (nI ((kinT l (u / 10) t) + 0))), some (.int (nI (u / 10 % 3 + 3 * t + 3))), none, none]) (by exact ⟨rfl, ⟨rfl, ⟨rfl, ⟨rfl, ⟨rfl, ⟨rfl, trivial⟩⟩⟩⟩⟩⟩) ?_
          exact hz
        · have c_96 : ¬ ((u / 10 % 3 + 3 * t) = (u / 10)) := fun h => c_96 ((nI_eq (by omega) (by omega)).mpr h)
          rw [if_pos ⟨c_96, hxe.mp (by omega)⟩] at hz
          refine rIconst (v := (nI (1))) dX7_blowOf_99 (by decide) ?_
          refine rGoto (tgt := 104) dX7_blowOf_100 (by decide) ?_
          refine nIadd dX7_blowOf_104 ?_
          refine rIstore dX7_blowOf_105 (by decide) ?_
          refine rIinc (v := (nI (u / 10 % 3 + 3 * t + 3))) dX7_blowOf_107 rfl (by first | exact nI_add _ _ | rfl) (by decide) ?_
          refine rGoto (tgt := 22) dX7_blowOf_110 (by decide) ?_
          refine rForget (L := [some (.ref (ad V m)), some (.int (nI p)), some (.int (nI q)), some (.int (nI u)), some (.int (nI ((kinT l (u / 10) t) + 1))), some (.int (nI (u / 10 % 3 + 3 * t + 3))), some (.int (nI x)), some (.int (nI (l.length)))]) (L' := [some (.ref (ad V m)), some (.int (nI p)), some (.int (nI q)), some (.int (nI u)), some (.int (nI ((kinT l (u / 10) t) + 1))), some (.int (nI (u / 10 % 3 + 3 * t + 3))), none, none]) (by exact ⟨rfl, ⟨rfl, ⟨rfl, ⟨rfl, ⟨rfl, ⟨rfl, trivial⟩⟩⟩⟩⟩⟩) ?_
          exact hz
    · have c_43 : ¬ ((l.length) ≤ i) := fun h => c_43 ((nI_leI (by omega) (by omega)).mpr h)
      have hk := okU_lt (ho i (by omega))
      refine rIload dX7_blowOf_46 rfl ?_
      refine r_if_ne (tgt := 70) dX7_blowOf_48 (by decide) (fun c_48 => ?_) (fun c_48 => ?_)
      · have c_48 : ¬ (x = 0) := fun h => c_48 ((nz_eq (by omega)).mpr h)
        refine rIconst (v := (nI (1))) dX7_blowOf_70 (by decide) ?_
        refine rGoto (tgt := 75) dX7_blowOf_71 (by decide) ?_
        refine rIstore dX7_blowOf_75 (by decide) ?_
        refine rIinc (v := (nI (i + 1))) dX7_blowOf_77 rfl (by first | exact nI_add _ _ | rfl) (by decide) ?_
        refine rGoto (tgt := 35) dX7_blowOf_80 (by decide) ?_
        exact ih (by omega) 1 ⟨by decide, ⟨fun _ => (hKb_take (by omega)).mpr (Or.inl (hxe.mp (by omega))), fun _ => rfl⟩⟩
      · have c_48 : x = 0 := (nz_eq (by omega)).mp c_48
        refine rAload_n dX7_blowOf_51 rfl ?_
        refine sGetR dX7_blowOf_52 fl_X7_44 hm.1 (by decide) rfl ?_
        refine rIconst (v := (nI (5))) dX7_blowOf_55 (by decide) ?_
        refine rIload_n dX7_blowOf_56 rfl ?_
        refine nImul dX7_blowOf_57 ?_
        refine rIload dX7_blowOf_58 rfl ?_
        refine nIadd dX7_blowOf_60 ?_
        refine nIald (v := (nI (l.getD i 0))) dX7_blowOf_61 hm.2.2.2.2.2.2.2.2.2.2.2.2.1 (by omega) (by omega) (by rw [hr.2 i (by omega)]) ?_
        refine rBipush (v := (nI (10))) dX7_blowOf_62 (by decide) ?_
        refine nIdiv dX7_blowOf_64 (by omega) (by decide) (by decide) ?_
        refine rIload dX7_blowOf_65 rfl ?_
        refine r_icmp_ne (tgt := 74) dX7_blowOf_67 (by decide) (fun c_67 => ?_) (fun c_67 => ?_)
        · have c_67 : ¬ (((l.getD i 0) / 10) = (u / 10 % 3 + 3 * t)) := fun h => c_67 ((nI_eq (by omega) (by omega)).mpr h)
          refine rIconst (v := (nI (0))) dX7_blowOf_74 (by decide) ?_
          refine rIstore dX7_blowOf_75 (by decide) ?_
          refine rIinc (v := (nI (i + 1))) dX7_blowOf_77 rfl (by first | exact nI_add _ _ | rfl) (by decide) ?_
          refine rGoto (tgt := 35) dX7_blowOf_80 (by decide) ?_
          exact ih (by omega) 0 ⟨by decide, ⟨fun e => absurd e (by decide), fun e => ((hKb_take (by omega)).mp e).elim (fun z => absurd (hxe.mpr z) (by omega)) (fun z => absurd z c_67)⟩⟩
        · have c_67 : ((l.getD i 0) / 10) = (u / 10 % 3 + 3 * t) := (nI_eq (by omega) (by omega)).mp c_67
          refine rIconst (v := (nI (1))) dX7_blowOf_70 (by decide) ?_
          refine rGoto (tgt := 75) dX7_blowOf_71 (by decide) ?_
          refine rIstore dX7_blowOf_75 (by decide) ?_
          refine rIinc (v := (nI (i + 1))) dX7_blowOf_77 rfl (by first | exact nI_add _ _ | rfl) (by decide) ?_
          refine rGoto (tgt := 35) dX7_blowOf_80 (by decide) ?_
          exact ih (by omega) 1 ⟨by decide, ⟨fun _ => (hKb_take (by omega)).mpr (Or.inr c_67), fun _ => rfl⟩⟩
set_option maxRecDepth 100000 in
set_option maxHeartbeats 4000000 in
theorem c_X7_blow {G : gG} {V : wV} {lo : Nat → Int64} {m : Nat} (hm : modAt V m) {s : sgT} {h : hT} (hh : modIs s m h) {B : Nat} (hok : hallOk B h) (hB : B ≤ 19000) {x y : Int32} : CSi G V mX7_blow cX7_blow (rmD 9 0 0) [.ref (ad V m), .int x, .int y] s lo (fun v s' => mPost m s (fBlow h x y) v s') (fun _ => False) := by
  refine CSi.of (L := [some (.ref (ad V m)), some (.int x), some (.int y)]) rfl (by decide +kernel) rfl (Nat.le_of_ble_eq_true rfl) rfl ?_
  refine rAload_n dX7_blow_0 rfl ?_
  refine rAload_n dX7_blow_1 rfl ?_
  refine rIload_n dX7_blow_2 rfl ?_
  refine rIload_n dX7_blow_3 rfl ?_
  refine sCallVp (M' := mX7_isOnBoard) (rm' := rmD 3 0 0) (As := [.int x, .int y]) (rest := [.ref (ad V m)]) dX7_blow_4 rfl mk_X7_isOnBoard mi_X7_isOnBoard ll_X7_132 ⟨(Nat.le_of_ble_eq_true rfl), (Nat.le_of_ble_eq_true rfl)⟩ hm.1 (by decide) rfl rfl (Nat.le_of_ble_eq_true rfl) (Nat.le_of_ble_eq_true rfl) (c_X7_isOnBoard hm hh hok hB) rfl (Nat.le_of_ble_eq_true rfl) (fun v e => ?_)
  rcases e with ⟨⟨p, hp, rfl, j, hj, rfl⟩, rfl⟩ | ⟨no, rfl⟩
  · have yp : mpl s m p (hY h p) := hh.2.2.2 p hp
    have bdp : mrow s (m + 11) (m + 12) p 5 (pBrd (hY h p)) := yp.2.2.2.2.2.2.1
    have bnp : mrow s (m + 9) (m + 10) p 6 (pBen (hY h p)) := yp.2.2.2.2.2.2.2
    obtain ⟨o1p, o2p, o3p, o4p, o5p, o6p, o7p, o8p, o9p⟩ := hok.2.2.1 p hp
    have ip : idx 4 (nI p) = some p := idx_nI hp (by decide)
    have ij : idx (pBrd (hY h p)).length (nI j) = some j := idx_nI hj (by omega)
    refine r_if_eq (tgt := 14) dX7_blow_7 (by decide) (fun c_7 => ?_) (fun c_7 => ?_)
    · have c_7 : 1 = 0 := (nz_eq (by omega)).mp c_7
      exact absurd c_7 (by omega)
    · have c_7 : ¬ (1 = 0) := fun h => c_7 ((nz_eq (by omega)).mpr h)
      have hF : fBlow h (nI p) (nI j) = (0, nI (strN (pBrd (hY h p)) ((pBrd (hY h p)).getD j 0)), h) := by simp only [fBlow, fAsk2, ip, ij]
      rw [hF]
      refine rIconst (v := (nI (0))) dX7_blow_10 (by decide) ?_
      refine rGoto (tgt := 15) dX7_blow_11 (by decide) ?_
      refine sCallVi (M' := mX7_holds) (rm' := rmD 1 0 0) (As := [.int (nI 0)]) (rest := []) dX7_blow_15 rfl mk_X7_holds mi_X7_holds ll_X7_71 ⟨(Nat.le_of_ble_eq_true rfl), (Nat.le_of_ble_eq_true rfl)⟩ hm.1 (by decide) rfl rfl (Nat.le_of_ble_eq_true rfl) (Nat.le_of_ble_eq_true rfl) (c_X7_holds hm (by omega)) rfl (Nat.le_of_ble_eq_true rfl) (fun v15 t15 e15 => ?_)
      obtain ⟨rfl, rfl⟩ := e15
      refine tTop (w := (nI (1))) (if_pos rfl) ?_
      refine r_if_eq (tgt := 30) dX7_blow_18 (by decide) (fun c_18 => ?_) (fun c_18 => ?_)
      · have c_18 : 1 = 0 := (nz_eq (by omega)).mp c_18
        exact absurd c_18 (by omega)
      · have c_18 : ¬ (1 = 0) := fun h => c_18 ((nz_eq (by omega)).mpr h)
        refine rAload_n dX7_blow_21 rfl ?_
        refine rIload_n dX7_blow_22 rfl ?_
        refine rIload_n dX7_blow_23 rfl ?_
        refine sCallVp (M' := mX7_blowOf) (rm' := rmD 2 0 0) (As := [.int (nI p), .int (nI j)]) (rest := []) dX7_blow_24 rfl mk_X7_blowOf mi_X7_blowOf ll_X7_135 ⟨(Nat.le_of_ble_eq_true rfl), (Nat.le_of_ble_eq_true rfl)⟩ hm.1 (by decide) rfl rfl (Nat.le_of_ble_eq_true rfl) (Nat.le_of_ble_eq_true rfl) (c_X7_blowOf hm (mrow_keep bdp (by rw [sw_a (by omega)]) (fun i _ => by rw [sw_a (by omega)])) (by omega) o7p hp hj) rfl (Nat.le_of_ble_eq_true rfl) (fun vb eb => ?_)
        refine rGoto (tgt := 31) dX7_blow_27 (by decide) ?_
        exact sIret dX7_blow_31 rfl rfl (Nat.le_of_ble_eq_true rfl) (Nat.le_of_ble_eq_true rfl) ⟨_, rfl, ⟨sw_s, fun _ => eb, modIs_thr hh, fun b hb => sw_a (by omega)⟩⟩
  · refine r_if_eq (tgt := 14) dX7_blow_7 (by decide) (fun c_7 => ?_) (fun c_7 => ?_)
    · have c_7 : 0 = 0 := (nz_eq (by omega)).mp c_7
      have hF : fBlow h x y = (1, 0, h) := by rcases ask_no (n := fun p => (pBrd (hY h p)).length) no with e | ⟨p, e, e2⟩ <;> simp only [fBlow, fAsk2, *]
      rw [hF]
      refine rIconst (v := (nI (1))) dX7_blow_14 (by decide) ?_
      refine sCallVi (M' := mX7_holds) (rm' := rmD 1 0 0) (As := [.int (nI 1)]) (rest := []) dX7_blow_15 rfl mk_X7_holds mi_X7_holds ll_X7_71 ⟨(Nat.le_of_ble_eq_true rfl), (Nat.le_of_ble_eq_true rfl)⟩ hm.1 (by decide) rfl rfl (Nat.le_of_ble_eq_true rfl) (Nat.le_of_ble_eq_true rfl) (c_X7_holds hm (by omega)) rfl (Nat.le_of_ble_eq_true rfl) (fun v15 t15 e15 => ?_)
      obtain ⟨rfl, rfl⟩ := e15
      refine tTop (w := (nI (0))) (if_neg (by decide)) ?_
      refine r_if_eq (tgt := 30) dX7_blow_18 (by decide) (fun c_18 => ?_) (fun c_18 => ?_)
      · have c_18 : 0 = 0 := (nz_eq (by omega)).mp c_18
        refine rIconst (v := (nI (0))) dX7_blow_30 (by decide) ?_
        exact sIret dX7_blow_31 rfl rfl (Nat.le_of_ble_eq_true rfl) (Nat.le_of_ble_eq_true rfl) ⟨_, rfl, ⟨sw_s, fun e => absurd e (Nat.succ_ne_zero _), modIs_thr hh, fun b hb => sw_a (by omega)⟩⟩
      · have c_18 : ¬ (0 = 0) := fun h => c_18 ((nz_eq (by omega)).mpr h)
        exact absurd c_18 (by omega)
    · have c_7 : ¬ (0 = 0) := fun h => c_7 ((nz_eq (by omega)).mpr h)
      exact absurd c_7 (by omega)
set_option maxRecDepth 100000 in
set_option maxHeartbeats 4000000 in
theorem c_X7_mayFight {G : gG} {V : wV} {lo : Nat → Int64} {m : Nat} (hm : modAt V m) {s : sgT} {h : hT} (hh : modIs s m h) {x y : Int32} : CSi G V mX7_mayFight cX7_mayFight (rmD 3 0 0) [.ref (ad V m), .int x, .int y] s lo (fun v s' => (∃ p q, p < 4 ∧ q < 4 ∧ ¬ p = q ∧ x = nI p ∧ y = nI q ∧ v = nI 1 ∧ s' = sw s m 0 (nI 0)) ∨ (∃ c, fFight h x y = (c + 1, 0, h) ∧ v = nI 0 ∧ s' = sw s m 0 (nI (c + 1)))) (fun _ => False) := by
  refine CSi.of (L := [some (.ref (ad V m)), some (.int x), some (.int y)]) rfl (by decide +kernel) rfl (Nat.le_of_ble_eq_true rfl) rfl ?_
  refine rAload_n dX7_mayFight_0 rfl ?_
  refine rIload_n dX7_mayFight_1 rfl ?_
  refine sCallSp (M' := mX7_isPlayer) (rm' := rmD 2 0 0) (As := [.int x]) (rest := [.ref (ad V m)]) dX7_mayFight_2 rfl mk_X7_isPlayer ms_X7_isPlayer ll_X7_64 ⟨(Nat.le_of_ble_eq_true rfl), (Nat.le_of_ble_eq_true rfl)⟩ rfl (Nat.le_of_ble_eq_true rfl) (Nat.le_of_ble_eq_true rfl) (c_X7_isPlayer) rfl (Nat.le_of_ble_eq_true rfl) (fun wp ep => ?_)
  rcases ep with ⟨⟨p, hp, rfl⟩, rfl⟩ | ⟨np, rfl⟩
  · have ip : idx 4 (nI p) = some p := idx_nI hp (by decide)
    refine r_if_eq (tgt := 15) dX7_mayFight_5 (by decide) (fun c_5 => ?_) (fun c_5 => ?_)
    · have c_5 : 1 = 0 := (nz_eq (by omega)).mp c_5
      exact absurd c_5 (by omega)
    · have c_5 : ¬ (1 = 0) := fun h => c_5 ((nz_eq (by omega)).mpr h)
      refine rIload_n dX7_mayFight_8 rfl ?_
      refine sCallSp (M' := mX7_isPlayer) (rm' := rmD 2 0 0) (As := [.int y]) (rest := [.ref (ad V m)]) dX7_mayFight_9 rfl mk_X7_isPlayer ms_X7_isPlayer ll_X7_64 ⟨(Nat.le_of_ble_eq_true rfl), (Nat.le_of_ble_eq_true rfl)⟩ rfl (Nat.le_of_ble_eq_true rfl) (Nat.le_of_ble_eq_true rfl) (c_X7_isPlayer) rfl (Nat.le_of_ble_eq_true rfl) (fun wq eq => ?_)
      rcases eq with ⟨⟨q, hq, rfl⟩, rfl⟩ | ⟨nq, rfl⟩
      · have iq : idx 4 (nI q) = some q := idx_nI hq (by decide)
        refine r_if_ne (tgt := 19) dX7_mayFight_12 (by decide) (fun c_12 => ?_) (fun c_12 => ?_)
        · have c_12 : ¬ (1 = 0) := fun h => c_12 ((nz_eq (by omega)).mpr h)
          refine rIload_n dX7_mayFight_19 rfl ?_
          refine rIload_n dX7_mayFight_20 rfl ?_
          refine r_icmp_ne (tgt := 28) dX7_mayFight_21 (by decide) (fun c_21 => ?_) (fun c_21 => ?_)
          · have c_21 : ¬ (p = q) := fun h => c_21 ((nI_eq (by omega) (by omega)).mpr h)
            refine rIconst (v := (nI (0))) dX7_mayFight_28 (by decide) ?_
            refine sCallVi (M' := mX7_holds) (rm' := rmD 1 0 0) (As := [.int (nI 0)]) (rest := []) dX7_mayFight_29 rfl mk_X7_holds mi_X7_holds ll_X7_71 ⟨(Nat.le_of_ble_eq_true rfl), (Nat.le_of_ble_eq_true rfl)⟩ hm.1 (by decide) rfl rfl (Nat.le_of_ble_eq_true rfl) (Nat.le_of_ble_eq_true rfl) (c_X7_holds hm (by omega)) rfl (Nat.le_of_ble_eq_true rfl) (fun v9 t9 e9 => ?_)
            obtain ⟨rfl, rfl⟩ := e9
            refine tTop (w := (nI (1))) (if_pos rfl) ?_
            exact sIret dX7_mayFight_32 rfl rfl (Nat.le_of_ble_eq_true rfl) (Nat.le_of_ble_eq_true rfl) ⟨_, rfl, (Or.inl ⟨p, q, hp, hq, c_21, rfl, rfl, rfl, rfl⟩)⟩
          · have c_21 : p = q := (nI_eq (by omega) (by omega)).mp c_21
            have hF : fFight h (nI (p)) (nI (q)) = (2, 0, h) := by simp only [fFight, ip, iq, if_pos c_21]
            refine rIconst (v := (nI (2))) dX7_mayFight_24 (by decide) ?_
            refine rGoto (tgt := 29) dX7_mayFight_25 (by decide) ?_
            refine sCallVi (M' := mX7_holds) (rm' := rmD 1 0 0) (As := [.int (nI 2)]) (rest := []) dX7_mayFight_29 rfl mk_X7_holds mi_X7_holds ll_X7_71 ⟨(Nat.le_of_ble_eq_true rfl), (Nat.le_of_ble_eq_true rfl)⟩ hm.1 (by decide) rfl rfl (Nat.le_of_ble_eq_true rfl) (Nat.le_of_ble_eq_true rfl) (c_X7_holds hm (by omega)) rfl (Nat.le_of_ble_eq_true rfl) (fun v9 t9 e9 => ?_)
            obtain ⟨rfl, rfl⟩ := e9
            refine tTop (w := (nI (0))) (if_neg (by decide)) ?_
            exact sIret dX7_mayFight_32 rfl rfl (Nat.le_of_ble_eq_true rfl) (Nat.le_of_ble_eq_true rfl) ⟨_, rfl, (Or.inr ⟨1, hF, rfl, rfl⟩)⟩
        · have c_12 : 1 = 0 := (nz_eq (by omega)).mp c_12
          exact absurd c_12 (by omega)
      · have iq := idx_not nq
        refine r_if_ne (tgt := 19) dX7_mayFight_12 (by decide) (fun c_12 => ?_) (fun c_12 => ?_)
        · have c_12 : ¬ (0 = 0) := fun h => c_12 ((nz_eq (by omega)).mpr h)
          exact absurd c_12 (by omega)
        · have c_12 : 0 = 0 := (nz_eq (by omega)).mp c_12
          have hF : fFight h (nI (p)) (y) = (1, 0, h) := by simp only [fFight, ip, iq]
          refine rIconst (v := (nI (1))) dX7_mayFight_15 (by decide) ?_
          refine rGoto (tgt := 29) dX7_mayFight_16 (by decide) ?_
          refine sCallVi (M' := mX7_holds) (rm' := rmD 1 0 0) (As := [.int (nI 1)]) (rest := []) dX7_mayFight_29 rfl mk_X7_holds mi_X7_holds ll_X7_71 ⟨(Nat.le_of_ble_eq_true rfl), (Nat.le_of_ble_eq_true rfl)⟩ hm.1 (by decide) rfl rfl (Nat.le_of_ble_eq_true rfl) (Nat.le_of_ble_eq_true rfl) (c_X7_holds hm (by omega)) rfl (Nat.le_of_ble_eq_true rfl) (fun v9 t9 e9 => ?_)
          obtain ⟨rfl, rfl⟩ := e9
          refine tTop (w := (nI (0))) (if_neg (by decide)) ?_
          exact sIret dX7_mayFight_32 rfl rfl (Nat.le_of_ble_eq_true rfl) (Nat.le_of_ble_eq_true rfl) ⟨_, rfl, (Or.inr ⟨0, hF, rfl, rfl⟩)⟩
  · have ip := idx_not np
    refine r_if_eq (tgt := 15) dX7_mayFight_5 (by decide) (fun c_5 => ?_) (fun c_5 => ?_)
    · have c_5 : 0 = 0 := (nz_eq (by omega)).mp c_5
      have hF : fFight h (x) (y) = (1, 0, h) := by simp only [fFight, ip]
      refine rIconst (v := (nI (1))) dX7_mayFight_15 (by decide) ?_
      refine rGoto (tgt := 29) dX7_mayFight_16 (by decide) ?_
      refine sCallVi (M' := mX7_holds) (rm' := rmD 1 0 0) (As := [.int (nI 1)]) (rest := []) dX7_mayFight_29 rfl mk_X7_holds mi_X7_holds ll_X7_71 ⟨(Nat.le_of_ble_eq_true rfl), (Nat.le_of_ble_eq_true rfl)⟩ hm.1 (by decide) rfl rfl (Nat.le_of_ble_eq_true rfl) (Nat.le_of_ble_eq_true rfl) (c_X7_holds hm (by omega)) rfl (Nat.le_of_ble_eq_true rfl) (fun v9 t9 e9 => ?_)
      obtain ⟨rfl, rfl⟩ := e9
      refine tTop (w := (nI (0))) (if_neg (by decide)) ?_
      exact sIret dX7_mayFight_32 rfl rfl (Nat.le_of_ble_eq_true rfl) (Nat.le_of_ble_eq_true rfl) ⟨_, rfl, (Or.inr ⟨0, hF, rfl, rfl⟩)⟩
    · have c_5 : ¬ (0 = 0) := fun h => c_5 ((nz_eq (by omega)).mpr h)
      exact absurd c_5 (by omega)
set_option maxRecDepth 100000 in
set_option maxHeartbeats 4000000 in
theorem c_X7_stands {G : gG} {V : wV} {lo : Nat → Int64} {m : Nat} (hm : modAt V m) {s : sgT} {p d : Nat} {l : List Nat} (hr : mrow s (m + 11) (m + 12) p 5 l) (hl : l.length ≤ 5) (ho : okR l) (hp : p < 4) (hd : d < 2) : CSv G V mX7_stands cX7_stands (rmD 2 0 0) [.ref (ad V m), .int (nI d), .int (nI p)] s lo (fun s' => mside s' m d l.length 0 (fun i => nI (hthN (l.getD i 0))) ∧ (∀ b, b ≠ m + 13 → b ≠ m + 14 → b ≠ m + 15 → s' b = s b) ∧ (∀ a j, 13 ≤ a → a ≤ 14 → j ≠ d → s' (m + a) j = s (m + a) j) ∧ (∀ j, j < 5 * d ∨ 5 * d + 5 ≤ j → s' (m + 15) j = s (m + 15) j)) (fun _ => False) := by
  refine CSv.of (L := [some (.ref (ad V m)), some (.int (nI d)), some (.int (nI p)), none, none]) rfl (by decide +kernel) rfl (Nat.le_of_ble_eq_true rfl) rfl ?_
  refine rAload_n dX7_stands_0 rfl ?_
  refine sGetR dX7_stands_1 fl_X7_47 hm.1 (by decide) rfl ?_
  refine rIload_n dX7_stands_4 rfl ?_
  refine rAload_n dX7_stands_5 rfl ?_
  refine sGetR dX7_stands_6 fl_X7_41 hm.1 (by decide) rfl ?_
  refine rIload_n dX7_stands_9 rfl ?_
  refine nIald (v := (nI (l.length))) dX7_stands_10 hm.2.2.2.2.2.2.2.2.2.2.2.1 (by omega) (by omega) (by rw [hr.1]) ?_
  refine nIast dX7_stands_11 hm.2.2.2.2.2.2.2.2.2.2.2.2.2.1 (by omega) (by omega) ?_
  refine rAload_n dX7_stands_12 rfl ?_
  refine sGetR dX7_stands_13 fl_X7_50 hm.1 (by decide) rfl ?_
  refine rIload_n dX7_stands_16 rfl ?_
  refine rIconst (v := (nI (0))) dX7_stands_17 (by decide) ?_
  refine nIast dX7_stands_18 hm.2.2.2.2.2.2.2.2.2.2.2.2.2.2.1 (by omega) (by omega) ?_
  refine rIconst (v := (nI (0))) dX7_stands_19 (by decide) ?_
  refine rIstore_n dX7_stands_20 (by decide) ?_
  refine loopW (σ := sgT) (l.length) (fun i y => [some (.ref (ad V m)), some (.int (nI d)), some (.int (nI p)), some (.int (nI i)), none]) (fun i y => y) (fun i y => (∀ j, j < i → y (m + 15) (5 * d + j) = nI (hthN (l.getD j 0))) ∧ (∀ j, j < 5 * d ∨ 5 * d + 5 ≤ j → y (m + 15) j = s (m + 15) j) ∧ (∀ b, b ≠ m + 15 → y b = (sw (sw s (m + 13) d (nI (l.length))) (m + 14) d (nI (0))) b)) (0) (sw (sw s (m + 13) d (nI (l.length))) (m + 14) d (nI (0))) (by omega) ⟨fun j hj => absurd hj (by omega), fun j _ => by rw [sw_a (by omega), sw_a (by omega)], fun _ _ => rfl⟩ (fun i y hi hinv ih => ?_)
  obtain ⟨v1, v2, v3⟩ := hinv
  have hlen : y (m + 11) p = nI l.length := by rw [v3 _ (by omega), sw_a (by omega), sw_a (by omega)]; exact hr.1
  refine rIload_n dX7_stands_21 rfl ?_
  refine rAload_n dX7_stands_22 rfl ?_
  refine sGetR dX7_stands_23 fl_X7_41 hm.1 (by decide) rfl ?_
  refine rIload_n dX7_stands_26 rfl ?_
  refine nIald (v := (nI (l.length))) dX7_stands_27 hm.2.2.2.2.2.2.2.2.2.2.2.1 (by omega) (by omega) (by rw [hlen]) ?_
  refine r_icmp_ge (tgt := 76) dX7_stands_28 (by decide) (fun c_28 => ?_) (fun c_28 => ?_)
  · have c_28 : (l.length) ≤ i := (nI_leI (by omega) (by omega)).mp c_28
    have e : i = l.length := by omega
    subst e
    exact sVret dX7_stands_76 rfl (Nat.le_of_ble_eq_true rfl) (Nat.le_of_ble_eq_true rfl) ⟨rfl, ⟨⟨by rw [v3 _ (by omega), sw_a (by omega), sw_s], by rw [v3 _ (by omega), sw_s], v1⟩, fun b h1 h2 h3 => by rw [v3 b h3, sw_a h2, sw_a h1], fun a j h1 h2 h3 => (by
            rw [v3 _ (by omega)]
            rcases (by omega : a = 13 ∨ a = 14) with e | e
            · subst e
              rw [sw_a (by omega), sw_i h3]
            · subst e
              rw [sw_i h3, sw_a (by omega)]), v2⟩⟩
  · have c_28 : ¬ ((l.length) ≤ i) := fun h => c_28 ((nI_leI (by omega) (by omega)).mpr h)
    obtain ⟨u, hu⟩ : ∃ u, u = l.getD i 0 := ⟨_, rfl⟩
    have hu9 : okU u := hu ▸ ho i (by omega)
    have hu90 := okU_lt hu9
    have q1 : y (m + 12) (5 * p + i) = nI u := by rw [v3 _ (by omega), sw_a (by omega), sw_a (by omega), hu]; exact hr.2 i (by omega)
    refine rAload_n dX7_stands_31 rfl ?_
    refine sGetR dX7_stands_32 fl_X7_44 hm.1 (by decide) rfl ?_
    refine rIconst (v := (nI (5))) dX7_stands_35 (by decide) ?_
    refine rIload_n dX7_stands_36 rfl ?_
    refine nImul dX7_stands_37 ?_
    refine rIload_n dX7_stands_38 rfl ?_
    refine nIadd dX7_stands_39 ?_
    refine nIald (v := (nI (u))) dX7_stands_40 hm.2.2.2.2.2.2.2.2.2.2.2.2.1 (by omega) (by omega) (by rw [q1]) ?_
    refine rIstore dX7_stands_41 (by decide) ?_
    refine rAload_n dX7_stands_43 rfl ?_
    refine sGetR dX7_stands_44 fl_X7_53 hm.1 (by decide) rfl ?_
    refine rIconst (v := (nI (5))) dX7_stands_47 (by decide) ?_
    refine rIload_n dX7_stands_48 rfl ?_
    refine nImul dX7_stands_49 ?_
    refine rIload_n dX7_stands_50 rfl ?_
    refine nIadd dX7_stands_51 ?_
    refine rBipush (v := (nI (6))) dX7_stands_52 (by decide) ?_
    refine rIload dX7_stands_54 rfl ?_
    refine rBipush (v := (nI (10))) dX7_stands_56 (by decide) ?_
    refine nIdiv dX7_stands_58 (by omega) (by decide) (by decide) ?_
    refine sCallSp (M' := mX7_cost) (rm' := rmD 1 0 0) (As := [.int (nI (u / 10))]) (rest := [.int (nI 6), .int (nI ((5 * d) + i)), .ref (ad V (m + 15))]) dX7_stands_59 rfl mk_X7_cost ms_X7_cost ll_X7_81 ⟨(Nat.le_of_ble_eq_true rfl), (Nat.le_of_ble_eq_true rfl)⟩ rfl (Nat.le_of_ble_eq_true rfl) (Nat.le_of_ble_eq_true rfl) (c_X7_cost (by omega)) rfl (Nat.le_of_ble_eq_true rfl) (fun vc ec => ?_)
    refine tTop (w := (nI (cst (u / 10)))) ec ?_
    refine nImul dX7_stands_62 ?_
    refine rIload dX7_stands_63 rfl ?_
    refine rBipush (v := (nI (10))) dX7_stands_65 (by decide) ?_
    refine nIrem dX7_stands_67 (by omega) (by decide) (by decide) ?_
    refine nImul dX7_stands_68 ?_
    refine nIast dX7_stands_69 hm.2.2.2.2.2.2.2.2.2.2.2.2.2.2.2 (by omega) (by omega) ?_
    refine rIinc (v := (nI (i + 1))) dX7_stands_70 rfl (by first | exact nI_add _ _ | rfl) (by decide) ?_
    refine rGoto (tgt := 21) dX7_stands_73 (by decide) ?_
    refine rForget (L := [some (.ref (ad V m)), some (.int (nI d)), some (.int (nI p)), some (.int (nI (i + 1))), some (.int (nI u))]) (L' := [some (.ref (ad V m)), some (.int (nI d)), some (.int (nI p)), some (.int (nI (i + 1))), none]) (by exact ⟨rfl, ⟨rfl, ⟨rfl, ⟨rfl, trivial⟩⟩⟩⟩) ?_
    exact ih (by omega) (sw y (m + 15) ((5 * d) + i) (nI ((6 * (cst (u / 10))) * (u % 10)))) ⟨fun j hj => (by
            by_cases e : j = i
            · subst e
              rw [sw_s, ← hu]
              rfl
            · rw [sw_i (by omega)]
              exact v1 j (by omega)), fun j hj => by rw [sw_i (by omega)]; exact v2 j hj, fun b hb => by rw [sw_a hb]; exact v3 b hb⟩
set_option maxRecDepth 100000 in
set_option maxHeartbeats 4000000 in
theorem c_X7_living {G : gG} {V : wV} {lo : Nat → Int64} {m : Nat} (hm : modAt V m) {s : sgT} {d n t : Nat} {hh : Nat → Int32} (hs : mside s m d n t hh) (hn : n ≤ 5) (hd : d < 2) : CSp G V mX7_living cX7_living (rmD 1 0 0) [.ref (ad V m), .int (nI d)] s lo (fun v => v = nI (livN hh n)) (fun _ => False) := by
  refine CSp.of (L := [some (.ref (ad V m)), some (.int (nI d)), none, none]) rfl (by decide +kernel) rfl (Nat.le_of_ble_eq_true rfl) rfl ?_
  refine rIconst (v := (nI (0))) dX7_living_0 (by decide) ?_
  refine rIstore_n dX7_living_1 (by decide) ?_
  refine rIconst (v := (nI (0))) dX7_living_2 (by decide) ?_
  refine rIstore_n dX7_living_3 (by decide) ?_
  refine loopW (σ := Unit) (n) (fun i _ => [some (.ref (ad V m)), some (.int (nI d)), some (.int (nI (livN hh i))), some (.int (nI i))]) (fun i _ => s) (fun i _ => True) (0) () (by omega) trivial (fun i _ hi hinv ih => ?_)
  refine rIload_n dX7_living_4 rfl ?_
  refine rAload_n dX7_living_5 rfl ?_
  refine sGetR dX7_living_6 fl_X7_47 hm.1 (by decide) rfl ?_
  refine rIload_n dX7_living_9 rfl ?_
  refine nIald (v := (nI (n))) dX7_living_10 hm.2.2.2.2.2.2.2.2.2.2.2.2.2.1 (by omega) (by omega) (by rw [hs.1]) ?_
  refine r_icmp_ge (tgt := 41) dX7_living_11 (by decide) (fun c_11 => ?_) (fun c_11 => ?_)
  · have c_11 : n ≤ i := (nI_leI (by omega) (by omega)).mp c_11
    have e : i = n := by omega
    subst e
    refine rIload_n dX7_living_41 rfl ?_
    exact sIret dX7_living_42 rfl rfl (Nat.le_of_ble_eq_true rfl) (Nat.le_of_ble_eq_true rfl) ⟨_, rfl, rfl, rfl⟩
  · have c_11 : ¬ (n ≤ i) := fun h => c_11 ((nI_leI (by omega) (by omega)).mpr h)
    have hz := ih (by omega) () trivial
    simp only [livN] at hz
    refine rIload_n dX7_living_14 rfl ?_
    refine rAload_n dX7_living_15 rfl ?_
    refine sGetR dX7_living_16 fl_X7_53 hm.1 (by decide) rfl ?_
    refine rIconst (v := (nI (5))) dX7_living_19 (by decide) ?_
    refine rIload_n dX7_living_20 rfl ?_
    refine nImul dX7_living_21 ?_
    refine rIload_n dX7_living_22 rfl ?_
    refine nIadd dX7_living_23 ?_
    refine nIald (v := (hh i)) dX7_living_24 hm.2.2.2.2.2.2.2.2.2.2.2.2.2.2.2 (by omega) (by omega) (by rw [hs.2.2 i (by omega)]) ?_
    refine r_if_le (tgt := 32) dX7_living_25 (by decide) (fun c_25 => ?_) (fun c_25 => ?_)
    · rw [if_pos c_25] at hz
      refine rIconst (v := (nI (0))) dX7_living_32 (by decide) ?_
      refine nIadd dX7_living_33 ?_
      refine rIstore_n dX7_living_34 (by decide) ?_
      refine rIinc (v := (nI (i + 1))) dX7_living_35 rfl (by first | exact nI_add _ _ | rfl) (by decide) ?_
      refine rGoto (tgt := 4) dX7_living_38 (by decide) ?_
      exact hz
    · rw [if_neg c_25] at hz
      refine rIconst (v := (nI (1))) dX7_living_28 (by decide) ?_
      refine rGoto (tgt := 33) dX7_living_29 (by decide) ?_
      refine nIadd dX7_living_33 ?_
      refine rIstore_n dX7_living_34 (by decide) ?_
      refine rIinc (v := (nI (i + 1))) dX7_living_35 rfl (by first | exact nI_add _ _ | rfl) (by decide) ?_
      refine rGoto (tgt := 4) dX7_living_38 (by decide) ?_
      exact hz
set_option maxRecDepth 100000 in
set_option maxHeartbeats 4000000 in
theorem c_X7_blows {G : gG} {V : wV} {lo : Nat → Int64} {m : Nat} (hm : modAt V m) {s : sgT} {p d n t n' t' a b : Nat} {hh hh' : Nat → Int32} {l : List Nat} (hs : mside s m d n t hh) (hs' : mside s m (1 - d) n' t' hh') (hr : mrow s (m + 11) (m + 12) p 5 l) (hnl : n = l.length) (hl : l.length ≤ 5) (hn' : n' ≤ 5) (ho : okR l) (hp : p < 4) (hd : d < 2) (htn : t < n) (hta : ttN hh n t n 0 = some a) (hfb : flN hh' n' 0 = some b) : CSv G V mX7_blows cX7_blows (rmD 4 0 0) [.ref (ad V m), .int (nI d), .int (nI p)] s lo (fun s' => mside s' m d n ((a + 1) % n) hh ∧ mside s' m (1 - d) n' t' (upd hh' b (hh' b - nI (strN l (l.getD a 0)))) ∧ (∀ c, c ≠ m + 14 → c ≠ m + 15 → s' c = s c)) (fun _ => False) := by
  refine CSv.of (L := [some (.ref (ad V m)), some (.int (nI d)), some (.int (nI p)), none]) rfl (by decide +kernel) rfl (Nat.le_of_ble_eq_true rfl) rfl ?_
  refine loopW (σ := sgT) (n) (fun j y => [some (.ref (ad V m)), some (.int (nI d)), some (.int (nI p)), none]) (fun j y => y) (fun j y => y (m + 14) d = nI ((t + j) % n) ∧ (∀ i, i ≠ d → y (m + 14) i = s (m + 14) i) ∧ (∀ c, c ≠ m + 14 → y c = s c) ∧ ttN hh n t (n - j) j = some a) (0) s (by omega) ⟨by rw [show (t + 0) % n = t from Nat.mod_eq_of_lt htn]; exact hs.2.1, fun _ _ => rfl, fun _ _ => rfl, hta⟩ (fun j y hj hinv jh => ?_)
  obtain ⟨v1, v2, v3, v4⟩ := hinv
  have hml := Nat.mod_lt (t + j) (show 0 < n by omega)
  have hjn : j < n := Nat.lt_of_le_of_ne hj (fun e => by subst e; simp [ttN] at v4)
  rw [show n - j = (n - (j + 1)) + 1 by omega] at v4
  simp only [ttN] at v4
  refine rAload_n dX7_blows_0 rfl ?_
  refine sGetR dX7_blows_1 fl_X7_53 hm.1 (by decide) rfl ?_
  refine rIconst (v := (nI (5))) dX7_blows_4 (by decide) ?_
  refine rIload_n dX7_blows_5 rfl ?_
  refine nImul dX7_blows_6 ?_
  refine rAload_n dX7_blows_7 rfl ?_
  refine sGetR dX7_blows_8 fl_X7_50 hm.1 (by decide) rfl ?_
  refine rIload_n dX7_blows_11 rfl ?_
  refine nIald (v := (nI ((t + j) % n))) dX7_blows_12 hm.2.2.2.2.2.2.2.2.2.2.2.2.2.2.1 (by omega) (by omega) (by rw [v1]) ?_
  refine nIadd dX7_blows_13 ?_
  refine nIald (v := (hh ((t + j) % n))) dX7_blows_14 hm.2.2.2.2.2.2.2.2.2.2.2.2.2.2.2 (by omega) (by omega) (by rw [v3 _ (by omega), hs.2.2 _ hml]) ?_
  refine r_if_gt (tgt := 42) dX7_blows_15 (by decide) (fun c_15 => ?_) (fun c_15 => ?_)
  · rw [if_neg (i_nle c_15)] at v4
    have ha := (Option.some.inj v4).symm
    rw [← ha] at v1 hml
    refine rIconst (v := (nI (0))) dX7_blows_42 (by decide) ?_
    refine rIstore_n dX7_blows_43 (by decide) ?_
    refine loopW (σ := Unit) (n') (fun i _ => [some (.ref (ad V m)), some (.int (nI d)), some (.int (nI p)), some (.int (nI i))]) (fun i _ => y) (fun i _ => flN hh' (n' - i) i = some b) (0) () (by omega) hfb (fun i _ hi hinv2 ih => ?_)
    have hin : i < n' := Nat.lt_of_le_of_ne hi (fun e => by subst e; simp [flN] at hinv2)
    rw [show n' - i = (n' - (i + 1)) + 1 by omega] at hinv2
    simp only [flN] at hinv2
    refine rAload_n dX7_blows_44 rfl ?_
    refine sGetR dX7_blows_45 fl_X7_53 hm.1 (by decide) rfl ?_
    refine rIconst (v := (nI (5))) dX7_blows_48 (by decide) ?_
    refine rIconst (v := (nI (1))) dX7_blows_49 (by decide) ?_
    refine rIload_n dX7_blows_50 rfl ?_
    refine nIsub dX7_blows_51 (by omega) ?_
    refine nImul dX7_blows_52 ?_
    refine rIload_n dX7_blows_53 rfl ?_
    refine nIadd dX7_blows_54 ?_
    refine nIald (v := (hh' i)) dX7_blows_55 hm.2.2.2.2.2.2.2.2.2.2.2.2.2.2.2 (by omega) (by omega) (by rw [v3 _ (by omega), hs'.2.2 i hin]) ?_
    refine r_if_gt (tgt := 65) dX7_blows_56 (by decide) (fun c_56 => ?_) (fun c_56 => ?_)
    · rw [if_neg (i_nle c_56)] at hinv2
      have hb := Option.some.inj hinv2
      subst hb
      refine rAload_n dX7_blows_65 rfl ?_
      refine sGetR dX7_blows_66 fl_X7_53 hm.1 (by decide) rfl ?_
      refine rIconst (v := (nI (5))) dX7_blows_69 (by decide) ?_
      refine rIconst (v := (nI (1))) dX7_blows_70 (by decide) ?_
      refine rIload_n dX7_blows_71 rfl ?_
      refine nIsub dX7_blows_72 (by omega) ?_
      refine nImul dX7_blows_73 ?_
      refine rIload_n dX7_blows_74 rfl ?_
      refine nIadd dX7_blows_75 ?_
      refine rDup2 dX7_blows_76 rfl rfl ?_
      refine nIald (v := (hh' i)) dX7_blows_77 hm.2.2.2.2.2.2.2.2.2.2.2.2.2.2.2 (by omega) (by omega) (by rw [v3 _ (by omega), hs'.2.2 i hin]) ?_
      refine rAload_n dX7_blows_78 rfl ?_
      refine rIload_n dX7_blows_79 rfl ?_
      refine rAload_n dX7_blows_80 rfl ?_
      refine sGetR dX7_blows_81 fl_X7_50 hm.1 (by decide) rfl ?_
      refine rIload_n dX7_blows_84 rfl ?_
      refine nIald (v := (nI (a))) dX7_blows_85 hm.2.2.2.2.2.2.2.2.2.2.2.2.2.2.1 (by omega) (by omega) (by rw [v1]) ?_
      refine sCallVp (M' := mX7_blowOf) (rm' := rmD 2 0 0) (As := [.int (nI p), .int (nI a)]) (rest := [.int (hh' i), .int (nI ((5 * (1 - d)) + i)), .ref (ad V (m + 15))]) dX7_blows_86 rfl mk_X7_blowOf mi_X7_blowOf ll_X7_135 ⟨(Nat.le_of_ble_eq_true rfl), (Nat.le_of_ble_eq_true rfl)⟩ hm.1 (by decide) rfl rfl (Nat.le_of_ble_eq_true rfl) (Nat.le_of_ble_eq_true rfl) (c_X7_blowOf hm (mrow_keep hr (by rw [v3 _ (by omega)]) (fun i _ => by rw [v3 _ (by omega)])) hl ho hp (show a < l.length by omega)) rfl (Nat.le_of_ble_eq_true rfl) (fun vb eb => ?_)
      refine tTop (w := (nI (strN l (l.getD a 0)))) eb ?_
      refine rIsub dX7_blows_89 ?_
      refine nIast dX7_blows_90 hm.2.2.2.2.2.2.2.2.2.2.2.2.2.2.2 (by omega) (by omega) ?_
      refine rAload_n dX7_blows_91 rfl ?_
      refine sGetR dX7_blows_92 fl_X7_50 hm.1 (by decide) rfl ?_
      refine rIload_n dX7_blows_95 rfl ?_
      refine rAload_n dX7_blows_96 rfl ?_
      refine sGetR dX7_blows_97 fl_X7_50 hm.1 (by decide) rfl ?_
      refine rIload_n dX7_blows_100 rfl ?_
      refine nIald (v := (nI (a))) dX7_blows_101 hm.2.2.2.2.2.2.2.2.2.2.2.2.2.2.1 (by omega) (by omega) (by rw [sw_a (by omega), v1]) ?_
      refine rIconst (v := (nI (1))) dX7_blows_102 (by decide) ?_
      refine nIadd dX7_blows_103 ?_
      refine rAload_n dX7_blows_104 rfl ?_
      refine sGetR dX7_blows_105 fl_X7_47 hm.1 (by decide) rfl ?_
      refine rIload_n dX7_blows_108 rfl ?_
      refine nIald (v := (nI (n))) dX7_blows_109 hm.2.2.2.2.2.2.2.2.2.2.2.2.2.1 (by omega) (by omega) (by rw [sw_a (by omega), v3 _ (by omega), hs.1]) ?_
      refine nIrem dX7_blows_110 (by omega) (by omega) (by omega) ?_
      refine nIast dX7_blows_111 hm.2.2.2.2.2.2.2.2.2.2.2.2.2.2.1 (by omega) (by omega) ?_
      exact sVret dX7_blows_112 rfl (Nat.le_of_ble_eq_true rfl) (Nat.le_of_ble_eq_true rfl) ⟨rfl, ⟨⟨by rw [sw_a (by omega), sw_a (by omega), v3 _ (by omega)]; exact hs.1, sw_s, fun k hk => by rw [sw_a (by omega), sw_i (by omega), v3 _ (by omega)]; exact hs.2.2 k hk⟩, ⟨by rw [sw_a (by omega), sw_a (by omega), v3 _ (by omega)]; exact hs'.1, by rw [sw_i (by omega), sw_a (by omega), v2 _ (by omega)]; exact hs'.2.1, fun k hk => (by
              rw [sw_a (by omega)]
              unfold upd
              by_cases e : k = i
              · subst e
                rw [sw_s, if_pos rfl]
              · rw [sw_i (by omega), if_neg e, v3 _ (by omega)]
                exact hs'.2.2 k hk)⟩, fun c h1 h2 => by rw [sw_a h1, sw_a h2]; exact v3 c h1⟩⟩
    · rw [if_pos (i_le c_56)] at hinv2
      refine rIinc (v := (nI (i + 1))) dX7_blows_59 rfl (by first | exact nI_add _ _ | rfl) (by decide) ?_
      refine rGoto (tgt := 44) dX7_blows_62 (by decide) ?_
      exact ih hin () hinv2
  · rw [if_pos (i_le c_15)] at v4
    refine rAload_n dX7_blows_18 rfl ?_
    refine sGetR dX7_blows_19 fl_X7_50 hm.1 (by decide) rfl ?_
    refine rIload_n dX7_blows_22 rfl ?_
    refine rAload_n dX7_blows_23 rfl ?_
    refine sGetR dX7_blows_24 fl_X7_50 hm.1 (by decide) rfl ?_
    refine rIload_n dX7_blows_27 rfl ?_
    refine nIald (v := (nI ((t + j) % n))) dX7_blows_28 hm.2.2.2.2.2.2.2.2.2.2.2.2.2.2.1 (by omega) (by omega) (by rw [v1]) ?_
    refine rIconst (v := (nI (1))) dX7_blows_29 (by decide) ?_
    refine nIadd dX7_blows_30 ?_
    refine rAload_n dX7_blows_31 rfl ?_
    refine sGetR dX7_blows_32 fl_X7_47 hm.1 (by decide) rfl ?_
    refine rIload_n dX7_blows_35 rfl ?_
    refine nIald (v := (nI (n))) dX7_blows_36 hm.2.2.2.2.2.2.2.2.2.2.2.2.2.1 (by omega) (by omega) (by rw [v3 _ (by omega), hs.1]) ?_
    refine nIrem dX7_blows_37 (by omega) (by omega) (by omega) ?_
    refine nIast dX7_blows_38 hm.2.2.2.2.2.2.2.2.2.2.2.2.2.2.1 (by omega) (by omega) ?_
    refine rGoto (tgt := 0) dX7_blows_39 (by decide) ?_
    exact jh hjn (sw y (m + 14) d (nI ((((t + j) % n) + 1) % n))) ⟨by rw [sw_s, show ((t + j) % n + 1) % n = (t + (j + 1)) % n by rw [Nat.mod_add_mod, Nat.add_assoc]], fun i hi => by rw [sw_i hi]; exact v2 i hi, fun c hc => by rw [sw_a hc]; exact v3 c hc, v4⟩
set_option maxRecDepth 100000 in
set_option maxHeartbeats 4000000 in
theorem c_X7_fought {G : gG} {V : wV} {lo : Nat → Int64} {m : Nat} (hm : modAt V m) {s : sgT} {h : hT} (hh : modIs s m h) {B : Nat} (hok : hallOk B h) (hB : B ≤ 19000) {p q : Nat} (hp : p < 4) (hq : q < 4) : CSi G V mX7_fought cX7_fought (rmD 5 0 0) [.ref (ad V m), .int (nI p), .int (nI q)] s lo (fun v s' => v = nI (livA (pBrd (hY h p)) (pBrd (hY h q))) - nI (livB (pBrd (hY h p)) (pBrd (hY h q))) ∧ modIs s' m h ∧ s' m = s m ∧ mFr s s' m) (fun _ => False) := by
  refine CSi.of (L := [some (.ref (ad V m)), some (.int (nI p)), some (.int (nI q)), none]) rfl (by decide +kernel) rfl (Nat.le_of_ble_eq_true rfl) rfl ?_
  have yp : mpl s m p (hY h p) := hh.2.2.2 p hp
  have bdp : mrow s (m + 11) (m + 12) p 5 (pBrd (hY h p)) := yp.2.2.2.2.2.2.1
  have bnp : mrow s (m + 9) (m + 10) p 6 (pBen (hY h p)) := yp.2.2.2.2.2.2.2
  obtain ⟨o1p, o2p, o3p, o4p, o5p, o6p, o7p, o8p, o9p⟩ := hok.2.2.1 p hp
  have yq : mpl s m q (hY h q) := hh.2.2.2 q hq
  have bdq : mrow s (m + 11) (m + 12) q 5 (pBrd (hY h q)) := yq.2.2.2.2.2.2.1
  have bnq : mrow s (m + 9) (m + 10) q 6 (pBen (hY h q)) := yq.2.2.2.2.2.2.2
  obtain ⟨o1q, o2q, o3q, o4q, o5q, o6q, o7q, o8q, o9q⟩ := hok.2.2.1 q hq
  obtain ⟨n0, hn0⟩ : ∃ n, n = (pBrd (hY h p)).length := ⟨_, rfl⟩
  obtain ⟨n1, hn1⟩ : ∃ n, n = (pBrd (hY h q)).length := ⟨_, rfl⟩
  refine rAload_n dX7_fought_0 rfl ?_
  refine rIconst (v := (nI (0))) dX7_fought_1 (by decide) ?_
  refine rIload_n dX7_fought_2 rfl ?_
  refine sCallVv (M' := mX7_stands) (rm' := rmD 2 0 0) (As := [.int (nI 0), .int (nI p)]) (rest := []) dX7_fought_3 rfl mk_X7_stands mi_X7_stands ll_X7_138 ⟨(Nat.le_of_ble_eq_true rfl), (Nat.le_of_ble_eq_true rfl)⟩ hm.1 (by decide) rfl rfl (Nat.le_of_ble_eq_true rfl) (Nat.le_of_ble_eq_true rfl) (c_X7_stands hm bdp (by omega) o7p hp (by decide)) rfl (Nat.le_of_ble_eq_true rfl) (fun s1 e => ?_)
  obtain ⟨e1, e2, e3, e4⟩ := e
  refine rAload_n dX7_fought_6 rfl ?_
  refine rIconst (v := (nI (1))) dX7_fought_7 (by decide) ?_
  refine rIload_n dX7_fought_8 rfl ?_
  refine sCallVv (M' := mX7_stands) (rm' := rmD 2 0 0) (As := [.int (nI 1), .int (nI q)]) (rest := []) dX7_fought_9 rfl mk_X7_stands mi_X7_stands ll_X7_138 ⟨(Nat.le_of_ble_eq_true rfl), (Nat.le_of_ble_eq_true rfl)⟩ hm.1 (by decide) rfl rfl (Nat.le_of_ble_eq_true rfl) (Nat.le_of_ble_eq_true rfl) (c_X7_stands hm (mrow_keep bdq (by rw [e2 _ (by omega) (by omega) (by omega)]) (fun i _ => by rw [e2 _ (by omega) (by omega) (by omega)])) (by omega) o7q hq (by decide)) rfl (Nat.le_of_ble_eq_true rfl) (fun s2 f => ?_)
  obtain ⟨f1, f2, f3, f4⟩ := f
  have g1 : mside s2 m 0 n0 0 (z0F (pBrd (hY h p)) (pBrd (hY h q))).1 := hn0 ▸ mside_keep e1 (f3 13 0 (by omega) (by omega) (by omega)) (f3 14 0 (by omega) (by omega) (by omega)) (fun i hi => f4 _ (by omega))
  have g2 : mside s2 m 1 n1 0 (z0F (pBrd (hY h p)) (pBrd (hY h q))).2.2.1 := hn1 ▸ f1
  have g3 : ∀ b, b ≠ m + 13 → b ≠ m + 14 → b ≠ m + 15 → s2 b = s b := fun b h1 h2 h3 => by rw [f2 b h1 h2 h3, e2 b h1 h2 h3]
  obtain ⟨Z, hZ⟩ : ∃ Z, Z = fightN n0 n1 (gF (pBrd (hY h p))) (gF (pBrd (hY h q))) 60 0 (z0F (pBrd (hY h p)) (pBrd (hY h q))) := ⟨_, rfl⟩
  have hres : nI (livA (pBrd (hY h p)) (pBrd (hY h q))) - nI (livB (pBrd (hY h p)) (pBrd (hY h q))) = nI (livN Z.1 n0) - nI (livN Z.2.2.1 n1) := by rw [hZ, hn0, hn1]; rfl
  rw [hres]
  refine rIconst (v := (nI (0))) dX7_fought_12 (by decide) ?_
  refine rIstore_n dX7_fought_13 (by decide) ?_
  refine loopW (σ := sgT × zT) (60) (fun k x => [some (.ref (ad V m)), some (.int (nI p)), some (.int (nI q)), some (.int (nI k))]) (fun k x => x.1) (fun k x => mside x.1 m 0 n0 x.2.2.1 x.2.1 ∧ mside x.1 m 1 n1 x.2.2.2.2 x.2.2.2.1 ∧ (0 < n0 → x.2.2.1 < n0) ∧ (0 < n1 → x.2.2.2.2 < n1) ∧ (∀ b, b ≠ m + 13 → b ≠ m + 14 → b ≠ m + 15 → x.1 b = s b) ∧ fightN n0 n1 (gF (pBrd (hY h p))) (gF (pBrd (hY h q))) (60 - k) k x.2 = Z) (0) (s2, (z0F (pBrd (hY h p)) (pBrd (hY h q)))) (by omega) ⟨g1, g2, id, id, g3, hZ.symm⟩ (fun k x hk hinv kh => ?_)
  obtain ⟨y, a0, u0, a1, u1⟩ := x
  obtain ⟨v1, v2, v3, v4, v5, v6⟩ := hinv
  dsimp only at v1 v2 v3 v4 v5 v6
  have hl0 := livN_le (h := a0) n0
  have hl1 := livN_le (h := a1) n1
  refine rIload_n dX7_fought_14 rfl ?_
  refine rBipush (v := (nI (60))) dX7_fought_15 (by decide) ?_
  refine r_icmp_ge (tgt := 60) dX7_fought_17 (by decide) (fun c_17 => ?_) (fun c_17 => ?_)
  · have c_17 : 60 ≤ k := (nI_leI (by omega) (by omega)).mp c_17
    have e : k = 60 := by omega
    subst e
    have hz : (a0, u0, a1, u1) = Z := v6
    rw [← hz]
    refine rAload_n dX7_fought_60 rfl ?_
    refine rIconst (v := (nI (0))) dX7_fought_61 (by decide) ?_
    refine sCallVp (M' := mX7_living) (rm' := rmD 1 0 0) (As := [.int (nI 0)]) (rest := []) dX7_fought_62 rfl mk_X7_living mi_X7_living ll_X7_141 ⟨(Nat.le_of_ble_eq_true rfl), (Nat.le_of_ble_eq_true rfl)⟩ hm.1 (by decide) rfl rfl (Nat.le_of_ble_eq_true rfl) (Nat.le_of_ble_eq_true rfl) (c_X7_living hm v1 (by omega) (by decide)) rfl (Nat.le_of_ble_eq_true rfl) (fun vl el => ?_)
    refine tTop (w := (nI (livN a0 n0))) el ?_
    refine rAload_n dX7_fought_65 rfl ?_
    refine rIconst (v := (nI (1))) dX7_fought_66 (by decide) ?_
    refine sCallVp (M' := mX7_living) (rm' := rmD 1 0 0) (As := [.int (nI 1)]) (rest := [.int (nI (livN a0 n0))]) dX7_fought_67 rfl mk_X7_living mi_X7_living ll_X7_141 ⟨(Nat.le_of_ble_eq_true rfl), (Nat.le_of_ble_eq_true rfl)⟩ hm.1 (by decide) rfl rfl (Nat.le_of_ble_eq_true rfl) (Nat.le_of_ble_eq_true rfl) (c_X7_living hm v2 (by omega) (by decide)) rfl (Nat.le_of_ble_eq_true rfl) (fun vm em => ?_)
    refine tTop (w := (nI (livN a1 n1))) em ?_
    refine rIsub dX7_fought_70 ?_
    exact sIret dX7_fought_71 rfl rfl (Nat.le_of_ble_eq_true rfl) (Nat.le_of_ble_eq_true rfl) ⟨_, rfl, ⟨rfl, modIs_keep hh (fun j _ => congrFun (v5 _ (by omega) (by omega) (by omega)) j) (fun a _ _ => v5 _ (by omega) (by omega) (by omega)), v5 _ (by omega) (by omega) (by omega), fun b hb => v5 b (by omega) (by omega) (by omega)⟩⟩
  · have c_17 : ¬ (60 ≤ k) := fun h => c_17 ((nI_leI (by omega) (by omega)).mpr h)
    rw [show 60 - k = (60 - (k + 1)) + 1 by omega] at v6
    simp only [fightN] at v6
    refine rAload_n dX7_fought_20 rfl ?_
    refine rIconst (v := (nI (0))) dX7_fought_21 (by decide) ?_
    refine sCallVp (M' := mX7_living) (rm' := rmD 1 0 0) (As := [.int (nI 0)]) (rest := []) dX7_fought_22 rfl mk_X7_living mi_X7_living ll_X7_141 ⟨(Nat.le_of_ble_eq_true rfl), (Nat.le_of_ble_eq_true rfl)⟩ hm.1 (by decide) rfl rfl (Nat.le_of_ble_eq_true rfl) (Nat.le_of_ble_eq_true rfl) (c_X7_living hm v1 (by omega) (by decide)) rfl (Nat.le_of_ble_eq_true rfl) (fun wl e0 => ?_)
    refine tTop (w := (nI (livN a0 n0))) e0 ?_
    refine r_if_le (tgt := 60) dX7_fought_25 (by decide) (fun c_25 => ?_) (fun c_25 => ?_)
    · have c_25 : (livN a0 n0) = 0 := (nz_le (by omega)).mp c_25
      have hbl : blowS n0 n1 (gF (pBrd (hY h p))) (gF (pBrd (hY h q))) k (a0, u0, a1, u1) = none := by
        unfold blowS
        split
        · simp only [ttN_liv.mpr c_25]
        · simp only [flN_liv.mpr c_25]
          split <;> first | rfl | (rename_i h1 h2; cases h2)
      rw [hbl] at v6
      have hz : (a0, u0, a1, u1) = Z := v6
      rw [← hz]
      refine rAload_n dX7_fought_60 rfl ?_
      refine rIconst (v := (nI (0))) dX7_fought_61 (by decide) ?_
      refine sCallVp (M' := mX7_living) (rm' := rmD 1 0 0) (As := [.int (nI 0)]) (rest := []) dX7_fought_62 rfl mk_X7_living mi_X7_living ll_X7_141 ⟨(Nat.le_of_ble_eq_true rfl), (Nat.le_of_ble_eq_true rfl)⟩ hm.1 (by decide) rfl rfl (Nat.le_of_ble_eq_true rfl) (Nat.le_of_ble_eq_true rfl) (c_X7_living hm v1 (by omega) (by decide)) rfl (Nat.le_of_ble_eq_true rfl) (fun vl el => ?_)
      refine tTop (w := (nI (livN a0 n0))) el ?_
      refine rAload_n dX7_fought_65 rfl ?_
      refine rIconst (v := (nI (1))) dX7_fought_66 (by decide) ?_
      refine sCallVp (M' := mX7_living) (rm' := rmD 1 0 0) (As := [.int (nI 1)]) (rest := [.int (nI (livN a0 n0))]) dX7_fought_67 rfl mk_X7_living mi_X7_living ll_X7_141 ⟨(Nat.le_of_ble_eq_true rfl), (Nat.le_of_ble_eq_true rfl)⟩ hm.1 (by decide) rfl rfl (Nat.le_of_ble_eq_true rfl) (Nat.le_of_ble_eq_true rfl) (c_X7_living hm v2 (by omega) (by decide)) rfl (Nat.le_of_ble_eq_true rfl) (fun vm em => ?_)
      refine tTop (w := (nI (livN a1 n1))) em ?_
      refine rIsub dX7_fought_70 ?_
      exact sIret dX7_fought_71 rfl rfl (Nat.le_of_ble_eq_true rfl) (Nat.le_of_ble_eq_true rfl) ⟨_, rfl, ⟨rfl, modIs_keep hh (fun j _ => congrFun (v5 _ (by omega) (by omega) (by omega)) j) (fun a _ _ => v5 _ (by omega) (by omega) (by omega)), v5 _ (by omega) (by omega) (by omega), fun b hb => v5 b (by omega) (by omega) (by omega)⟩⟩
    · have c_25 : ¬ ((livN a0 n0) = 0) := fun h => c_25 ((nz_le (by omega)).mpr h)
      refine rAload_n dX7_fought_28 rfl ?_
      refine rIconst (v := (nI (1))) dX7_fought_29 (by decide) ?_
      refine sCallVp (M' := mX7_living) (rm' := rmD 1 0 0) (As := [.int (nI 1)]) (rest := []) dX7_fought_30 rfl mk_X7_living mi_X7_living ll_X7_141 ⟨(Nat.le_of_ble_eq_true rfl), (Nat.le_of_ble_eq_true rfl)⟩ hm.1 (by decide) rfl rfl (Nat.le_of_ble_eq_true rfl) (Nat.le_of_ble_eq_true rfl) (c_X7_living hm v2 (by omega) (by decide)) rfl (Nat.le_of_ble_eq_true rfl) (fun wm e9 => ?_)
      refine tTop (w := (nI (livN a1 n1))) e9 ?_
      refine r_if_le (tgt := 60) dX7_fought_33 (by decide) (fun c_33 => ?_) (fun c_33 => ?_)
      · have c_33 : (livN a1 n1) = 0 := (nz_le (by omega)).mp c_33
        have hbl : blowS n0 n1 (gF (pBrd (hY h p))) (gF (pBrd (hY h q))) k (a0, u0, a1, u1) = none := by
          unfold blowS
          split
          · simp only [flN_liv.mpr c_33]
            split <;> first | rfl | (rename_i h1 h2; cases h2)
          · simp only [ttN_liv.mpr c_33]
        rw [hbl] at v6
        have hz : (a0, u0, a1, u1) = Z := v6
        rw [← hz]
        refine rAload_n dX7_fought_60 rfl ?_
        refine rIconst (v := (nI (0))) dX7_fought_61 (by decide) ?_
        refine sCallVp (M' := mX7_living) (rm' := rmD 1 0 0) (As := [.int (nI 0)]) (rest := []) dX7_fought_62 rfl mk_X7_living mi_X7_living ll_X7_141 ⟨(Nat.le_of_ble_eq_true rfl), (Nat.le_of_ble_eq_true rfl)⟩ hm.1 (by decide) rfl rfl (Nat.le_of_ble_eq_true rfl) (Nat.le_of_ble_eq_true rfl) (c_X7_living hm v1 (by omega) (by decide)) rfl (Nat.le_of_ble_eq_true rfl) (fun vl el => ?_)
        refine tTop (w := (nI (livN a0 n0))) el ?_
        refine rAload_n dX7_fought_65 rfl ?_
        refine rIconst (v := (nI (1))) dX7_fought_66 (by decide) ?_
        refine sCallVp (M' := mX7_living) (rm' := rmD 1 0 0) (As := [.int (nI 1)]) (rest := [.int (nI (livN a0 n0))]) dX7_fought_67 rfl mk_X7_living mi_X7_living ll_X7_141 ⟨(Nat.le_of_ble_eq_true rfl), (Nat.le_of_ble_eq_true rfl)⟩ hm.1 (by decide) rfl rfl (Nat.le_of_ble_eq_true rfl) (Nat.le_of_ble_eq_true rfl) (c_X7_living hm v2 (by omega) (by decide)) rfl (Nat.le_of_ble_eq_true rfl) (fun vm em => ?_)
        refine tTop (w := (nI (livN a1 n1))) em ?_
        refine rIsub dX7_fought_70 ?_
        exact sIret dX7_fought_71 rfl rfl (Nat.le_of_ble_eq_true rfl) (Nat.le_of_ble_eq_true rfl) ⟨_, rfl, ⟨rfl, modIs_keep hh (fun j _ => congrFun (v5 _ (by omega) (by omega) (by omega)) j) (fun a _ _ => v5 _ (by omega) (by omega) (by omega)), v5 _ (by omega) (by omega) (by omega), fun b hb => v5 b (by omega) (by omega) (by omega)⟩⟩
      · have c_33 : ¬ ((livN a1 n1) = 0) := fun h => c_33 ((nz_le (by omega)).mpr h)
        refine rAload_n dX7_fought_36 rfl ?_
        refine rIload_n dX7_fought_37 rfl ?_
        refine rIconst (v := (nI (2))) dX7_fought_38 (by decide) ?_
        refine nIrem dX7_fought_39 (by omega) (by decide) (by decide) ?_
        refine rIload_n dX7_fought_40 rfl ?_
        refine rIconst (v := (nI (2))) dX7_fought_41 (by decide) ?_
        refine nIrem dX7_fought_42 (by omega) (by decide) (by decide) ?_
        refine r_if_ne (tgt := 50) dX7_fought_43 (by decide) (fun c_43 => ?_) (fun c_43 => ?_)
        · have c_43 : ¬ ((k % 2) = 0) := fun h => c_43 ((nz_eq (by omega)).mpr h)
          refine tTop (w := (nI (1))) (congrArg nI (show k % 2 = 1 by omega)) ?_
          obtain ⟨a, hta⟩ : ∃ a, ttN a1 n1 u1 n1 0 = some a := (by cases z : ttN a1 n1 u1 n1 0 with | none => exact absurd (ttN_liv.mp z) (by omega) | some a => exact ⟨a, rfl⟩)
          obtain ⟨b, hfb⟩ : ∃ b, flN a0 n0 0 = some b := (by cases z : flN a0 n0 0 with | none => exact absurd (flN_liv.mp z) (by omega) | some b => exact ⟨b, rfl⟩)
          have hn_ : 0 < n1 := by omega
          refine rIload_n dX7_fought_50 rfl ?_
          refine sCallVv (M' := mX7_blows) (rm' := rmD 4 0 0) (As := [.int (nI 1), .int (nI q)]) (rest := []) dX7_fought_51 rfl mk_X7_blows mi_X7_blows ll_X7_144 ⟨(Nat.le_of_ble_eq_true rfl), (Nat.le_of_ble_eq_true rfl)⟩ hm.1 (by decide) rfl rfl (Nat.le_of_ble_eq_true rfl) (Nat.le_of_ble_eq_true rfl) (c_X7_blows (d := 1) hm v2 v1 (mrow_keep bdq (congrFun (v5 _ (by omega) (by omega) (by omega)) _) (fun i _ => congrFun (v5 _ (by omega) (by omega) (by omega)) _)) (by omega) (by omega) (by omega) o7q hq (by decide) (v4 hn_) hta hfb) rfl (Nat.le_of_ble_eq_true rfl) (fun s3 i => ?_)
          obtain ⟨i1, i2, i3⟩ := i
          have hbl : blowS n0 n1 (gF (pBrd (hY h p))) (gF (pBrd (hY h q))) k (a0, u0, a1, u1) = some ((upd a0 b (a0 b - (gF (pBrd (hY h q))) a), u0, a1, (a + 1) % n1), b, (gF (pBrd (hY h q))) a) := by
            unfold blowS
            rw [if_neg (by omega)]
            simp only [hta, hfb]
          rw [hbl] at v6
          refine rIinc (v := (nI (k + 1))) dX7_fought_54 rfl (by first | exact nI_add _ _ | rfl) (by decide) ?_
          refine rGoto (tgt := 14) dX7_fought_57 (by decide) ?_
          exact kh (by omega) (s3, (upd a0 b (a0 b - (gF (pBrd (hY h q))) a), u0, a1, (a + 1) % n1)) ⟨i2, i1, v3, fun h9 => Nat.mod_lt _ h9, fun b h1 h2 h3 => (i3 b h2 h3).trans (v5 b h1 h2 h3), v6⟩
        · have c_43 : (k % 2) = 0 := (nz_eq (by omega)).mp c_43
          refine tTop (w := (nI (0))) (congrArg nI (show k % 2 = 0 by omega)) ?_
          obtain ⟨a, hta⟩ : ∃ a, ttN a0 n0 u0 n0 0 = some a := (by cases z : ttN a0 n0 u0 n0 0 with | none => exact absurd (ttN_liv.mp z) (by omega) | some a => exact ⟨a, rfl⟩)
          obtain ⟨b, hfb⟩ : ∃ b, flN a1 n1 0 = some b := (by cases z : flN a1 n1 0 with | none => exact absurd (flN_liv.mp z) (by omega) | some b => exact ⟨b, rfl⟩)
          have hn_ : 0 < n0 := by omega
          refine rIload_n dX7_fought_46 rfl ?_
          refine rGoto (tgt := 51) dX7_fought_47 (by decide) ?_
          refine sCallVv (M' := mX7_blows) (rm' := rmD 4 0 0) (As := [.int (nI 0), .int (nI p)]) (rest := []) dX7_fought_51 rfl mk_X7_blows mi_X7_blows ll_X7_144 ⟨(Nat.le_of_ble_eq_true rfl), (Nat.le_of_ble_eq_true rfl)⟩ hm.1 (by decide) rfl rfl (Nat.le_of_ble_eq_true rfl) (Nat.le_of_ble_eq_true rfl) (c_X7_blows (d := 0) hm v1 v2 (mrow_keep bdp (congrFun (v5 _ (by omega) (by omega) (by omega)) _) (fun i _ => congrFun (v5 _ (by omega) (by omega) (by omega)) _)) (by omega) (by omega) (by omega) o7p hp (by decide) (v3 hn_) hta hfb) rfl (Nat.le_of_ble_eq_true rfl) (fun s3 i => ?_)
          obtain ⟨i1, i2, i3⟩ := i
          have hbl : blowS n0 n1 (gF (pBrd (hY h p))) (gF (pBrd (hY h q))) k (a0, u0, a1, u1) = some ((a0, (a + 1) % n0, upd a1 b (a1 b - (gF (pBrd (hY h p))) a), u1), b, (gF (pBrd (hY h p))) a) := by
            unfold blowS
            rw [if_pos (by omega)]
            simp only [hta, hfb]
          rw [hbl] at v6
          refine rIinc (v := (nI (k + 1))) dX7_fought_54 rfl (by first | exact nI_add _ _ | rfl) (by decide) ?_
          refine rGoto (tgt := 14) dX7_fought_57 (by decide) ?_
          exact kh (by omega) (s3, (a0, (a + 1) % n0, upd a1 b (a1 b - (gF (pBrd (hY h p))) a), u1)) ⟨i1, i2, fun h9 => Nat.mod_lt _ h9, v4, fun b h1 h2 h3 => (i3 b h2 h3).trans (v5 b h1 h2 h3), v6⟩
set_option maxRecDepth 100000 in
set_option maxHeartbeats 4000000 in
theorem c_X7_fight {G : gG} {V : wV} {lo : Nat → Int64} {m : Nat} (hm : modAt V m) {s : sgT} {h : hT} (hh : modIs s m h) {B : Nat} (hok : hallOk B h) (hB : B ≤ 19000) {x y : Int32} : CSi G V mX7_fight cX7_fight (rmD 9 0 0) [.ref (ad V m), .int x, .int y] s lo (fun v s' => mPost m s (fFight h x y) v s') (fun _ => False) := by
  refine CSi.of (L := [some (.ref (ad V m)), some (.int x), some (.int y)]) rfl (by decide +kernel) rfl (Nat.le_of_ble_eq_true rfl) rfl ?_
  refine rAload_n dX7_fight_0 rfl ?_
  refine rIload_n dX7_fight_1 rfl ?_
  refine rIload_n dX7_fight_2 rfl ?_
  refine sCallVi (M' := mX7_mayFight) (rm' := rmD 3 0 0) (As := [.int x, .int y]) (rest := []) dX7_fight_3 rfl mk_X7_mayFight mi_X7_mayFight ll_X7_163 ⟨(Nat.le_of_ble_eq_true rfl), (Nat.le_of_ble_eq_true rfl)⟩ hm.1 (by decide) rfl rfl (Nat.le_of_ble_eq_true rfl) (Nat.le_of_ble_eq_true rfl) (c_X7_mayFight hm hh) rfl (Nat.le_of_ble_eq_true rfl) (fun v s1 e => ?_)
  rcases e with ⟨p, q, hp, hq, hpq, rfl, rfl, rfl, rfl⟩ | ⟨c, hF, rfl, rfl⟩
  · refine r_if_eq (tgt := 18) dX7_fight_6 (by decide) (fun c_6 => ?_) (fun c_6 => ?_)
    · have c_6 : 1 = 0 := (nz_eq (by omega)).mp c_6
      exact absurd c_6 (by omega)
    · have c_6 : ¬ (1 = 0) := fun h => c_6 ((nz_eq (by omega)).mpr h)
      have hF : fFight h (nI p) (nI q) = (0, nI (livA (pBrd (hY h p)) (pBrd (hY h q))) - nI (livB (pBrd (hY h p)) (pBrd (hY h q))), h) := by simp only [fFight, idx_nI hp (by decide), idx_nI hq (by decide), if_neg hpq]
      rw [hF]
      refine rAload_n dX7_fight_9 rfl ?_
      refine rIload_n dX7_fight_10 rfl ?_
      refine rIload_n dX7_fight_11 rfl ?_
      refine sCallVi (M' := mX7_fought) (rm' := rmD 5 0 0) (As := [.int (nI p), .int (nI q)]) (rest := []) dX7_fight_12 rfl mk_X7_fought mi_X7_fought ll_X7_147 ⟨(Nat.le_of_ble_eq_true rfl), (Nat.le_of_ble_eq_true rfl)⟩ hm.1 (by decide) rfl rfl (Nat.le_of_ble_eq_true rfl) (Nat.le_of_ble_eq_true rfl) (c_X7_fought hm (modIs_thr (v := nI 0) hh) hok hB hp hq) rfl (Nat.le_of_ble_eq_true rfl) (fun v2 s2 f => ?_)
      obtain ⟨f1, f2, f3, f4⟩ := f
      refine rGoto (tgt := 19) dX7_fight_15 (by decide) ?_
      exact sIret dX7_fight_19 rfl rfl (Nat.le_of_ble_eq_true rfl) (Nat.le_of_ble_eq_true rfl) ⟨_, rfl, ⟨by rw [f3, sw_s], fun _ => f1, f2, fun b hb => by rw [f4 b hb, sw_a (by omega)]⟩⟩
  · rw [hF]
    refine r_if_eq (tgt := 18) dX7_fight_6 (by decide) (fun c_6 => ?_) (fun c_6 => ?_)
    · have c_6 : 0 = 0 := (nz_eq (by omega)).mp c_6
      refine rIconst (v := (nI (0))) dX7_fight_18 (by decide) ?_
      exact sIret dX7_fight_19 rfl rfl (Nat.le_of_ble_eq_true rfl) (Nat.le_of_ble_eq_true rfl) ⟨_, rfl, ⟨sw_s, fun e => absurd e (Nat.succ_ne_zero _), modIs_thr hh, fun b hb => sw_a (by omega)⟩⟩
    · have c_6 : ¬ (0 = 0) := fun h => c_6 ((nz_eq (by omega)).mpr h)
      exact absurd c_6 (by omega)
set_option maxRecDepth 100000 in
set_option maxHeartbeats 4000000 in
theorem c_X7_fightByRecord {G : gG} {V : wV} {lo : Nat → Int64} {m : Nat} (hm : modAt V m) {s : sgT} {h : hT} (hh : modIs s m h) {B : Nat} (hok : hallOk B h) (hB : B ≤ 19000) {x y : Int32} : CSi G V mX7_fightByRecord cX7_fightByRecord (rmD 9 0 0) [.ref (ad V m), .int x, .int y] s lo (fun v s' => mPost m s (fFight h x y) v s') (fun _ => False) := by
  refine CSi.of (L := [some (.ref (ad V m)), some (.int x), some (.int y)]) rfl (by decide +kernel) rfl (Nat.le_of_ble_eq_true rfl) rfl ?_
  refine rAload_n dX7_fightByRecord_0 rfl ?_
  refine rIload_n dX7_fightByRecord_1 rfl ?_
  refine rIload_n dX7_fightByRecord_2 rfl ?_
  refine sCallVi (M' := mX7_mayFight) (rm' := rmD 3 0 0) (As := [.int x, .int y]) (rest := []) dX7_fightByRecord_3 rfl mk_X7_mayFight mi_X7_mayFight ll_X7_163 ⟨(Nat.le_of_ble_eq_true rfl), (Nat.le_of_ble_eq_true rfl)⟩ hm.1 (by decide) rfl rfl (Nat.le_of_ble_eq_true rfl) (Nat.le_of_ble_eq_true rfl) (c_X7_mayFight hm hh) rfl (Nat.le_of_ble_eq_true rfl) (fun v s1 e => ?_)
  rcases e with ⟨p, q, hp, hq, hpq, rfl, rfl, rfl, rfl⟩ | ⟨c, hF, rfl, rfl⟩
  · refine r_if_eq (tgt := 18) dX7_fightByRecord_6 (by decide) (fun c_6 => ?_) (fun c_6 => ?_)
    · have c_6 : 1 = 0 := (nz_eq (by omega)).mp c_6
      exact absurd c_6 (by omega)
    · have c_6 : ¬ (1 = 0) := fun h => c_6 ((nz_eq (by omega)).mpr h)
      have hF : fFight h (nI p) (nI q) = (0, nI (livA (pBrd (hY h p)) (pBrd (hY h q))) - nI (livB (pBrd (hY h p)) (pBrd (hY h q))), h) := by simp only [fFight, idx_nI hp (by decide), idx_nI hq (by decide), if_neg hpq]
      rw [hF]
      refine rAload_n dX7_fightByRecord_9 rfl ?_
      refine rIload_n dX7_fightByRecord_10 rfl ?_
      refine rIload_n dX7_fightByRecord_11 rfl ?_
      refine sCallVi (M' := mX7_fought) (rm' := rmD 5 0 0) (As := [.int (nI p), .int (nI q)]) (rest := []) dX7_fightByRecord_12 rfl mk_X7_fought mi_X7_fought ll_X7_147 ⟨(Nat.le_of_ble_eq_true rfl), (Nat.le_of_ble_eq_true rfl)⟩ hm.1 (by decide) rfl rfl (Nat.le_of_ble_eq_true rfl) (Nat.le_of_ble_eq_true rfl) (c_X7_fought hm (modIs_thr (v := nI 0) hh) hok hB hp hq) rfl (Nat.le_of_ble_eq_true rfl) (fun v2 s2 f => ?_)
      obtain ⟨f1, f2, f3, f4⟩ := f
      refine rGoto (tgt := 19) dX7_fightByRecord_15 (by decide) ?_
      exact sIret dX7_fightByRecord_19 rfl rfl (Nat.le_of_ble_eq_true rfl) (Nat.le_of_ble_eq_true rfl) ⟨_, rfl, ⟨by rw [f3, sw_s], fun _ => f1, f2, fun b hb => by rw [f4 b hb, sw_a (by omega)]⟩⟩
  · rw [hF]
    refine r_if_eq (tgt := 18) dX7_fightByRecord_6 (by decide) (fun c_6 => ?_) (fun c_6 => ?_)
    · have c_6 : 0 = 0 := (nz_eq (by omega)).mp c_6
      refine rIconst (v := (nI (0))) dX7_fightByRecord_18 (by decide) ?_
      exact sIret dX7_fightByRecord_19 rfl rfl (Nat.le_of_ble_eq_true rfl) (Nat.le_of_ble_eq_true rfl) ⟨_, rfl, ⟨sw_s, fun e => absurd e (Nat.succ_ne_zero _), modIs_thr hh, fun b hb => sw_a (by omega)⟩⟩
    · have c_6 : ¬ (0 = 0) := fun h => c_6 ((nz_eq (by omega)).mpr h)
      exact absurd c_6 (by omega)
