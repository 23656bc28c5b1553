/-! the reference: round (by program) -/
theorem modIs_up {s : sgT} {m : Nat} {h : hT} (hh : modIs s m h) : modIs (sw s m 1 (nI (hR h + 1))) m (upR h) :=
  ⟨sw_s, mque_keep hh.2.1 (fun j hj => sw_i (by omega)) (sw_a (by omega)), fun k hk => by rw [sw_a (by omega)]; exact hh.2.2.1 k hk, fun p hp => by
    obtain ⟨e1, e2, e3, e4, e5, e6, e7, e8⟩ := hh.2.2.2 p hp
    exact ⟨by rw [sw_a (by omega)]; exact e1, by rw [sw_a (by omega)]; exact e2, by rw [sw_a (by omega)]; exact e3, by rw [sw_a (by omega)]; exact e4, by rw [sw_a (by omega)]; exact e5, fun j hj => by rw [sw_a (by omega)]; exact e6 j hj, mrow_keep e7 (by rw [sw_a (by omega)]) (fun i hi => by rw [sw_a (by omega)]), mrow_keep e8 (by rw [sw_a (by omega)]) (fun i hi => by rw [sw_a (by omega)])⟩⟩
set_option maxRecDepth 100000 in
set_option maxHeartbeats 4000000 in
theorem c_X7_round {G : gG} {V : wV} {lo : Nat → Int64} {m : Nat} (hm : modAt V m) {s : sgT} {h : hT} (hh : modIs s m h) {B : Nat} (hok : hallOk B h) (hB : B ≤ 19000)  : CSi G V mX7_round cX7_round (rmD 9 0 0) [.ref (ad V m)] s lo (fun v s' => mPost m s (fRound h) v s') (fun _ => False) := by
  refine CSi.of (L := [some (.ref (ad V m)), none, none, none, none]) rfl (by decide +kernel) rfl (Nat.le_of_ble_eq_true rfl) rfl ?_
  have hr := hok.2.2.2
  refine rAload_n dX7_round_0 rfl ?_
  refine rAload_n dX7_round_1 rfl ?_
  refine sGetI (x := (nI (hR h))) dX7_round_2 fl_X7_154 hm.1 (by decide) rfl (by rw [hh.1]) ?_
  refine rSipush (v := (nI (200))) dX7_round_5 (by decide) ?_
  refine r_icmp_ne (tgt := 15) dX7_round_8 (by decide) (fun c_8 => ?_) (fun c_8 => ?_)
  · have c_8 : ¬ ((hR h) = 200) := fun h => c_8 ((nI_eq (by omega) (by omega)).mpr h)
    have hF : fRound h = (0, nI (aliN (fuH (eaH (rdH h) 4) 4) 4), upR (fuH (eaH (rdH h) 4) 4)) := by simp only [fRound, if_neg (show ¬ 200 ≤ hR h by omega)]; rfl
    rw [hF]
    refine rIconst (v := (nI (0))) dX7_round_15 (by decide) ?_
    refine sCallVi (M' := mX7_holds) (rm' := rmD 1 0 0) (As := [.int (nI 0)]) (rest := []) dX7_round_16 rfl mk_X7_holds mi_X7_holds ll_X7_71 ⟨(Nat.le_of_ble_eq_true rfl), (Nat.le_of_ble_eq_true rfl)⟩ hm.1 (by decide) rfl rfl (Nat.le_of_ble_eq_true rfl) (Nat.le_of_ble_eq_true rfl) (c_X7_holds hm (by omega)) rfl (Nat.le_of_ble_eq_true rfl) (fun v16 t16 e16 => ?_)
    obtain ⟨rfl, rfl⟩ := e16
    refine tTop (w := (nI (1))) (if_pos rfl) ?_
    refine r_if_ne (tgt := 24) dX7_round_19 (by decide) (fun c_19 => ?_) (fun c_19 => ?_)
    · have c_19 : ¬ (1 = 0) := fun h => c_19 ((nz_eq (by omega)).mpr h)
      rcases (by omega : hR h % 3 = 0 ∨ hR h % 3 = 1 ∨ hR h % 3 = 2) with hm3 | hm3 | hm3
      · have hrd : rdH h = pairH (pairH h 0 1) 2 3 := by unfold rdH; rw [if_pos hm3]; rfl
        refine rAload_n dX7_round_24 rfl ?_
        refine sGetI (x := (nI (hR h))) dX7_round_25 fl_X7_154 hm.1 (by decide) rfl (by rw [sw_i (by decide), hh.1]) ?_
        refine rIconst (v := (nI (3))) dX7_round_28 (by decide) ?_
        refine nIrem dX7_round_29 (by omega) (by decide) (by decide) ?_
        refine tTop (w := (nI (0))) (congrArg nI hm3) ?_
        refine rIstore_n dX7_round_30 (by decide) ?_
        refine rAload_n dX7_round_31 rfl ?_
        refine rIconst (v := (nI (0))) dX7_round_32 (by decide) ?_
        refine rIconst (v := (nI (1))) dX7_round_33 (by decide) ?_
        refine rIload_n dX7_round_34 rfl ?_
        refine nIadd dX7_round_35 ?_
        refine tTop (w := (nI (1))) rfl ?_
        refine sCallVv (M' := mX7_pairs) (rm' := rmD 6 0 0) (As := [.int (nI 0), .int (nI 1)]) (rest := []) dX7_round_36 rfl mk_X7_pairs mi_X7_pairs ll_X7_157 ⟨(Nat.le_of_ble_eq_true rfl), (Nat.le_of_ble_eq_true rfl)⟩ hm.1 (by decide) rfl rfl (Nat.le_of_ble_eq_true rfl) (Nat.le_of_ble_eq_true rfl) (c_X7_pairs hm (modIs_thr (v := nI 0) hh) hok hB (p := 0) (q := 1) (by decide) (by decide) (by decide)) rfl (Nat.le_of_ble_eq_true rfl) (fun s1 e1 => ?_)
        obtain ⟨d1, g1, f1⟩ := e1
        have k1 := hallOk_pair (p := 0) (q := 1) hok (by decide) (by decide)
        refine rAload_n dX7_round_39 rfl ?_
        refine rIload_n dX7_round_40 rfl ?_
        refine sCallSp (M' := mX7_third) (rm' := rmD 1 0 0) (As := [.int (nI 0)]) (rest := [.ref (ad V m)]) dX7_round_41 rfl mk_X7_third ms_X7_third ll_X7_160 ⟨(Nat.le_of_ble_eq_true rfl), (Nat.le_of_ble_eq_true rfl)⟩ rfl (Nat.le_of_ble_eq_true rfl) (Nat.le_of_ble_eq_true rfl) (c_X7_third (by decide)) rfl (Nat.le_of_ble_eq_true rfl) (fun v3 e3 => ?_)
        refine tTop (w := (nI (2))) (e3.trans rfl) ?_
        refine rIload_n dX7_round_44 rfl ?_
        refine rIconst (v := (nI (2))) dX7_round_45 (by decide) ?_
        refine r_icmp_ne (tgt := 53) dX7_round_46 (by decide) (fun c_46 => ?_) (fun c_46 => ?_)
        · have c_46 : ¬ (0 = 2) := fun h => c_46 ((nI_eq (by omega) (by omega)).mpr h)
          refine rIconst (v := (nI (3))) dX7_round_53 (by decide) ?_
          refine sCallVv (M' := mX7_pairs) (rm' := rmD 6 0 0) (As := [.int (nI 2), .int (nI 3)]) (rest := []) dX7_round_54 rfl mk_X7_pairs mi_X7_pairs ll_X7_157 ⟨(Nat.le_of_ble_eq_true rfl), (Nat.le_of_ble_eq_true rfl)⟩ hm.1 (by decide) rfl rfl (Nat.le_of_ble_eq_true rfl) (Nat.le_of_ble_eq_true rfl) (c_X7_pairs hm d1 k1 hB (p := 2) (q := 3) (by decide) (by decide) (by decide)) rfl (Nat.le_of_ble_eq_true rfl) (fun s2 e2 => ?_)
          obtain ⟨d2, g2, f2⟩ := e2
          have k2 := hallOk_pair (p := 2) (q := 3) k1 (by decide) (by decide)
          rw [← hrd] at d2 k2
          obtain ⟨R, hRR⟩ : ∃ R, R = rdH h := ⟨_, rfl⟩
          rw [← hRR] at d2 k2
          have hRr : hR R = hR h := by rw [hRR]; exact hallR_rd
          have k3 : hallOk B (upR R) := hallRr k2 (by omega)
          refine rAload_n dX7_round_57 rfl ?_
          refine rDup dX7_round_58 rfl ?_
          refine sGetI (x := (nI (hR R))) dX7_round_59 fl_X7_154 hm.1 (by decide) rfl (by rw [d2.1]) ?_
          refine rIconst (v := (nI (1))) dX7_round_62 (by decide) ?_
          refine nIadd dX7_round_63 ?_
          refine sPutI dX7_round_64 fl_X7_154 ft_X7 rfl hm.1 (by decide) rfl rfl rfl ?_
          refine rIconst (v := (nI (0))) dX7_round_67 (by decide) ?_
          refine rIstore_n dX7_round_68 (by decide) ?_
          refine rIconst (v := (nI (0))) dX7_round_69 (by decide) ?_
          refine rIstore_n dX7_round_70 (by decide) ?_
          refine loopW (σ := sgT) (4) (fun i y => [some (.ref (ad V m)), some (.int (nI 0)), some (.int (nI (aliN R i))), some (.int (nI i)), none]) (fun i y => y) (fun i y => modIs y m (eaH (upR R) i) ∧ y m 0 = nI 0 ∧ mFr s y m) (0) (sw s2 m 1 (nI ((hR R) + 1))) (by omega) ⟨modIs_up d2, by rw [sw_i (by decide), g2, g1, sw_s], fun b hb => by rw [sw_a (by omega), f2 b hb, f1 b hb, sw_a (by omega)]⟩ (fun i y hi hinv ih => ?_)
          obtain ⟨v1, v2, v3⟩ := hinv
          refine rIload_n dX7_round_71 rfl ?_
          refine rIconst (v := (nI (4))) dX7_round_72 (by decide) ?_
          refine r_icmp_ge (tgt := 170) dX7_round_73 (by decide) (fun c_73 => ?_) (fun c_73 => ?_)
          · have c_73 : 4 ≤ i := (nI_leI (by omega) (by omega)).mp c_73
            have e : i = 4 := by omega
            subst e
            obtain ⟨E, hE⟩ : ∃ E, E = eaH (upR R) 4 := ⟨_, rfl⟩
            rw [← hE] at v1
            have kE : hallOk B E := hE ▸ hallOk_ea k3 4 (by omega)
            refine rIconst (v := (nI (0))) dX7_round_170 (by decide) ?_
            refine rIstore_n dX7_round_171 (by decide) ?_
            refine loopW (σ := sgT) (4) (fun j z => [some (.ref (ad V m)), some (.int (nI 0)), some (.int (nI (aliN R 4))), some (.int (nI j)), none]) (fun j z => z) (fun j z => modIs z m (fuH E j) ∧ z m 0 = nI 0 ∧ mFr s z m) (0) y (by omega) ⟨v1, v2, v3⟩ (fun j z hj hjnv jh => ?_)
            obtain ⟨w1, w2, w3⟩ := hjnv
            refine rIload_n dX7_round_172 rfl ?_
            refine rIconst (v := (nI (4))) dX7_round_173 (by decide) ?_
            refine r_icmp_ge (tgt := 204) dX7_round_174 (by decide) (fun c_174 => ?_) (fun c_174 => ?_)
            · have c_174 : 4 ≤ j := (nI_leI (by omega) (by omega)).mp c_174
              have e : j = 4 := by omega
              subst e
              rw [hE, eaH_up, fuH_up, hRR] at w1
              have hal : aliN R 4 = aliN (fuH (eaH (rdH h) 4) 4) 4 := (ali_cong (fun k => by rw [fu_h 4, ea_h 4, hRR]) 4)
              refine rIload_n dX7_round_204 rfl ?_
              exact sIret dX7_round_205 rfl rfl (Nat.le_of_ble_eq_true rfl) (Nat.le_of_ble_eq_true rfl) ⟨_, rfl, ⟨w2, fun _ => congrArg nI hal, w1, w3⟩⟩
            · have c_174 : ¬ (4 ≤ j) := fun h => c_174 ((nI_leI (by omega) (by omega)).mpr h)
              have kf := hallOk_fu kE j (by omega)
              obtain ⟨F, hFF⟩ : ∃ F, F = fuH E j := ⟨_, rfl⟩
              rw [← hFF] at w1 kf
              have yj := w1.2.2.2 j (by omega)
              cases hl : pLck (hY F j)
              · have hz : z (m + 8) j = nI 0 := by rw [yj.2.2.2.2.1, hl]; rfl
                refine rAload_n dX7_round_177 rfl ?_
                refine sGetR dX7_round_178 fl_X7_31 hm.1 (by decide) rfl ?_
                refine rIload_n dX7_round_181 rfl ?_
                refine nZald (v := (nI (0))) dX7_round_182 hm.2.2.2.2.2.2.2.2.1 (by omega) (by omega) (by rw [hz]) ?_
                refine r_if_ne (tgt := 191) dX7_round_183 (by decide) (fun c_183 => ?_) (fun c_183 => ?_)
                · have c_183 : ¬ (0 = 0) := fun h => c_183 ((nz_eq (by omega)).mpr h)
                  exact absurd c_183 (by omega)
                · have c_183 : 0 = 0 := (nz_eq (by omega)).mp c_183
                  refine rAload_n dX7_round_186 rfl ?_
                  refine rIload_n dX7_round_187 rfl ?_
                  refine sCallVv (M' := mX7_fills) (rm' := rmD 3 0 0) (As := [.int (nI j)]) (rest := []) dX7_round_188 rfl mk_X7_fills mi_X7_fills ll_X7_89 ⟨(Nat.le_of_ble_eq_true rfl), (Nat.le_of_ble_eq_true rfl)⟩ hm.1 (by decide) rfl rfl (Nat.le_of_ble_eq_true rfl) (Nat.le_of_ble_eq_true rfl) (c_X7_fills hm w1 kf (by omega) (by omega)) rfl (Nat.le_of_ble_eq_true rfl) (fun z1 i => ?_)
                  obtain ⟨i1, i2, i3⟩ := i
                  refine rAload_n dX7_round_191 rfl ?_
                  refine sGetR dX7_round_192 fl_X7_31 hm.1 (by decide) rfl ?_
                  refine rIload_n dX7_round_195 rfl ?_
                  refine rIconst (v := (nI (0))) dX7_round_196 (by decide) ?_
                  refine nZast dX7_round_197 hm.2.2.2.2.2.2.2.2.1 (by omega) (by omega) rfl ?_
                  refine rIinc (v := (nI (j + 1))) dX7_round_198 rfl (by first | exact nI_add _ _ | rfl) (by decide) ?_
                  refine rGoto (tgt := 172) dX7_round_201 (by decide) ?_
                  have kg := hallOk_fill kf (p := j) (by omega)
                  have hs : fuH E (j + 1) = setY (fillH F j) j (wC (hY (fillH F j) j) false) := by simp only [fuH, ← hFF, hl]; rfl
                  have q0 := i1.2.2.2 j (by omega)
                  rw [setY_at] at q0
                  have q1 := modIs_P (x := wC (wC (hY (fillH F j) j) false) false) i1 (hallOk_P kg (plOk_wC (kg.2.2.1 j (by omega)))) (mPF_1 (a := 8) (v := nI 0) (by decide) (by decide) (by decide) (by decide)) (mpl_C q0 rfl)
                  have q2 := modIs_ext (h' := setY (fillH F j) j (wC (hY (fillH F j) j) false)) q1 rfl rfl (fun i hi => (by
                          show (if i = j then _ else if i = j then _ else hY (fillH F j) i) = if i = j then _ else hY (fillH F j) i
                          by_cases e : i = j
                          · rw [if_pos e, if_pos e]
                            rfl
                          · simp only [if_neg e])) rfl
                  exact jh (by omega) (sw z1 (m + 8) j (nI (0))) ⟨by rw [hs]; exact q2, by rw [sw_a (by omega), i2]; exact w2, fun b hb => by rw [sw_a (by omega), i3 b hb]; exact w3 b hb⟩
              · have hz : z (m + 8) j = nI 1 := by rw [yj.2.2.2.2.1, hl]; rfl
                refine rAload_n dX7_round_177 rfl ?_
                refine sGetR dX7_round_178 fl_X7_31 hm.1 (by decide) rfl ?_
                refine rIload_n dX7_round_181 rfl ?_
                refine nZald (v := (nI (1))) dX7_round_182 hm.2.2.2.2.2.2.2.2.1 (by omega) (by omega) (by rw [hz]) ?_
                refine r_if_ne (tgt := 191) dX7_round_183 (by decide) (fun c_183 => ?_) (fun c_183 => ?_)
                · have c_183 : ¬ (1 = 0) := fun h => c_183 ((nz_eq (by omega)).mpr h)
                  refine rAload_n dX7_round_191 rfl ?_
                  refine sGetR dX7_round_192 fl_X7_31 hm.1 (by decide) rfl ?_
                  refine rIload_n dX7_round_195 rfl ?_
                  refine rIconst (v := (nI (0))) dX7_round_196 (by decide) ?_
                  refine nZast dX7_round_197 hm.2.2.2.2.2.2.2.2.1 (by omega) (by omega) rfl ?_
                  refine rIinc (v := (nI (j + 1))) dX7_round_198 rfl (by first | exact nI_add _ _ | rfl) (by decide) ?_
                  refine rGoto (tgt := 172) dX7_round_201 (by decide) ?_
                  have hs : fuH E (j + 1) = setY F j (wC (hY F j) false) := by simp only [fuH, ← hFF, hl]; rfl
                  exact jh (by omega) (sw z (m + 8) j (nI (0))) ⟨by rw [hs]; exact modIs_P w1 kf (mPF_1 (a := 8) (by decide) (by decide) (by decide) (by decide)) (mpl_C yj rfl), by rw [sw_a (by omega)]; exact w2, fun b hb => by rw [sw_a (by omega)]; exact w3 b hb⟩
                · have c_183 : 1 = 0 := (nz_eq (by omega)).mp c_183
                  exact absurd c_183 (by omega)
          · have c_73 : ¬ (4 ≤ i) := fun h => c_73 ((nI_leI (by omega) (by omega)).mpr h)
            obtain ⟨X, hX⟩ : ∃ X, X = eaH (upR R) i := ⟨_, rfl⟩
            rw [← hX] at v1
            have kx : hallOk B X := hX ▸ hallOk_ea k3 i (by omega)
            have yi := v1.2.2.2 i (by omega)
            have hh9 : pHth (hY X i) = pHth (hY R i) := by rw [hX]; exact ea_h i
            have og := (kx.2.2.1 i (by omega)).1
            have oh := (kx.2.2.1 i (by omega)).2.2.2.1
            obtain ⟨x, hx⟩ : ∃ x, x = pGold (hY X i) := ⟨_, rfl⟩
            have y0 : y (m + 3) i = nI x := by rw [hx]; exact yi.1
            rw [← hx] at og
            have y5 : y (m + 5) i = nI (pHth (hY R i)) := yi.2.2.1.trans (congrArg nI hh9)
            rw [hh9] at oh
            have hz := fun (z : sgT) => ih (by omega) z
            simp only [aliN] at hz
            refine rAload_n dX7_round_76 rfl ?_
            refine sGetR dX7_round_77 fl_X7_25 hm.1 (by decide) rfl ?_
            refine rIload_n dX7_round_80 rfl ?_
            refine nIald (v := (pStk (hY X i))) dX7_round_81 hm.2.2.2.2.2.2.1 (by omega) (by omega) (by rw [yi.2.2.2.1]) ?_
            refine rIconst (v := (nI (1))) dX7_round_82 (by decide) ?_
            refine r_icmp_gt (tgt := 96) dX7_round_83 (by decide) (fun c_83 => ?_) (fun c_83 => ?_)
            · have hb9 : stkB (pStk (hY X i)) = 1 := if_pos (Or.inl c_83)
              refine rIconst (v := (nI (1))) dX7_round_96 (by decide) ?_
              refine rGoto (tgt := 101) dX7_round_97 (by decide) ?_
              refine rIstore dX7_round_101 (by decide) ?_
              refine rAload_n dX7_round_103 rfl ?_
              refine sGetR dX7_round_104 fl_X7_16 hm.1 (by decide) rfl ?_
              refine rIload_n dX7_round_107 rfl ?_
              refine rAload_n dX7_round_108 rfl ?_
              refine sGetR dX7_round_109 fl_X7_16 hm.1 (by decide) rfl ?_
              refine rIload_n dX7_round_112 rfl ?_
              refine nIald (v := (nI (x))) dX7_round_113 hm.2.2.2.1 (by omega) (by omega) (by rw [y0]) ?_
              refine rIconst (v := (nI (3))) dX7_round_114 (by decide) ?_
              refine nIadd dX7_round_115 ?_
              refine rAload_n dX7_round_116 rfl ?_
              refine sGetR dX7_round_117 fl_X7_16 hm.1 (by decide) rfl ?_
              refine rIload_n dX7_round_120 rfl ?_
              refine nIald (v := (nI (x))) dX7_round_121 hm.2.2.2.1 (by omega) (by omega) (by rw [y0]) ?_
              refine rBipush (v := (nI (10))) dX7_round_122 (by decide) ?_
              refine nIdiv dX7_round_124 (by omega) (by decide) (by decide) ?_
              refine rIconst (v := (nI (3))) dX7_round_125 (by decide) ?_
              refine sCallSp (M' := mX7_least) (rm' := rmD 1 0 0) (As := [.int (nI (x / 10)), .int (nI 3)]) (rest := [.int (nI (x + 3)), .int (nI i), .ref (ad V (m + 3))]) dX7_round_126 rfl mk_X7_least ms_X7_least ll_X7_129 ⟨(Nat.le_of_ble_eq_true rfl), (Nat.le_of_ble_eq_true rfl)⟩ rfl (Nat.le_of_ble_eq_true rfl) (Nat.le_of_ble_eq_true rfl) (c_X7_least (by omega) (by omega)) rfl (Nat.le_of_ble_eq_true rfl) (fun vl el => ?_)
              refine tTop (w := (nI (min (x / 10) 3))) el ?_
              refine nIadd dX7_round_129 ?_
              refine rIload dX7_round_130 rfl ?_
              refine r_if_eq (tgt := 139) dX7_round_132 (by decide) (fun c_132 => ?_) (fun c_132 => ?_)
              · have c_132 : 1 = 0 := (nz_eq (by omega)).mp c_132
                exact absurd c_132 (by omega)
              · have c_132 : ¬ (1 = 0) := fun h => c_132 ((nz_eq (by omega)).mpr h)
                refine rIconst (v := (nI (1))) dX7_round_135 (by decide) ?_
                refine rGoto (tgt := 140) dX7_round_136 (by decide) ?_
                refine nIadd dX7_round_140 ?_
                refine rBipush (v := (nI (100))) dX7_round_141 (by decide) ?_
                refine sCallSp (M' := mX7_least) (rm' := rmD 1 0 0) (As := [.int (nI (((x + 3) + (min (x / 10) 3)) + 1)), .int (nI 100)]) (rest := [.int (nI i), .ref (ad V (m + 3))]) dX7_round_143 rfl mk_X7_least ms_X7_least ll_X7_129 ⟨(Nat.le_of_ble_eq_true rfl), (Nat.le_of_ble_eq_true rfl)⟩ rfl (Nat.le_of_ble_eq_true rfl) (Nat.le_of_ble_eq_true rfl) (c_X7_least (by omega) (by omega)) rfl (Nat.le_of_ble_eq_true rfl) (fun vm em => ?_)
                refine tTop (w := (nI (earnG x (stkB (pStk (hY X i)))))) (em.trans (congrArg nI (by rw [hb9]; unfold earnG; omega))) ?_
                refine nIast dX7_round_146 hm.2.2.2.1 (by omega) (by omega) ?_
                refine rIload_n dX7_round_147 rfl ?_
                refine rAload_n dX7_round_148 rfl ?_
                refine sGetR dX7_round_149 fl_X7_22 hm.1 (by decide) rfl ?_
                refine rIload_n dX7_round_152 rfl ?_
                refine nIald (v := (nI (pHth (hY R i)))) dX7_round_153 hm.2.2.2.2.2.1 (by omega) (by omega) (by rw [sw_a (by omega), y5]) ?_
                refine r_if_le (tgt := 161) dX7_round_154 (by decide) (fun c_154 => ?_) (fun c_154 => ?_)
                · have c_154 : (pHth (hY R i)) = 0 := (nz_le (by omega)).mp c_154
                  rw [if_pos c_154] at hz
                  refine rIconst (v := (nI (0))) dX7_round_161 (by decide) ?_
                  refine nIadd dX7_round_162 ?_
                  refine rIstore_n dX7_round_163 (by decide) ?_
                  refine rIinc (v := (nI (i + 1))) dX7_round_164 rfl (by first | exact nI_add _ _ | rfl) (by decide) ?_
                  refine rGoto (tgt := 71) dX7_round_167 (by decide) ?_
                  refine rForget (L := [some (.ref (ad V m)), some (.int (nI 0)), some (.int (nI ((aliN R i) + 0))), some (.int (nI (i + 1))), some (.int (nI 1))]) (L' := [some (.ref (ad V m)), some (.int (nI 0)), some (.int (nI ((aliN R i) + 0))), some (.int (nI (i + 1))), none]) (by exact ⟨rfl, ⟨rfl, ⟨rfl, ⟨rfl, trivial⟩⟩⟩⟩) ?_
                  exact hz (sw y (m + 3) i (nI (earnG x (stkB (pStk (hY X i)))))) ⟨by have g9 := modIs_P (x := wG (hY X i) (earnG x (stkB (pStk (hY X i))))) v1 kx (mPF_1 (a := 3) (v := nI (earnG x (stkB (pStk (hY X i))))) (by decide) (by decide) (by decide) (by decide)) (mpl_G yi); rw [hx, hX] at g9; rw [hx, hX]; exact g9, by rw [sw_a (by omega)]; exact v2, fun b hb => by rw [sw_a (by omega)]; exact v3 b hb⟩
                · have c_154 : ¬ ((pHth (hY R i)) = 0) := fun h => c_154 ((nz_le (by omega)).mpr h)
                  rw [if_neg c_154] at hz
                  refine rIconst (v := (nI (1))) dX7_round_157 (by decide) ?_
                  refine rGoto (tgt := 162) dX7_round_158 (by decide) ?_
                  refine nIadd dX7_round_162 ?_
                  refine rIstore_n dX7_round_163 (by decide) ?_
                  refine rIinc (v := (nI (i + 1))) dX7_round_164 rfl (by first | exact nI_add _ _ | rfl) (by decide) ?_
                  refine rGoto (tgt := 71) dX7_round_167 (by decide) ?_
                  refine rForget (L := [some (.ref (ad V m)), some (.int (nI 0)), some (.int (nI ((aliN R i) + 1))), some (.int (nI (i + 1))), some (.int (nI 1))]) (L' := [some (.ref (ad V m)), some (.int (nI 0)), some (.int (nI ((aliN R i) + 1))), some (.int (nI (i + 1))), none]) (by exact ⟨rfl, ⟨rfl, ⟨rfl, ⟨rfl, trivial⟩⟩⟩⟩) ?_
                  exact hz (sw y (m + 3) i (nI (earnG x (stkB (pStk (hY X i)))))) ⟨by have g9 := modIs_P (x := wG (hY X i) (earnG x (stkB (pStk (hY X i))))) v1 kx (mPF_1 (a := 3) (v := nI (earnG x (stkB (pStk (hY X i))))) (by decide) (by decide) (by decide) (by decide)) (mpl_G yi); rw [hx, hX] at g9; rw [hx, hX]; exact g9, by rw [sw_a (by omega)]; exact v2, fun b hb => by rw [sw_a (by omega)]; exact v3 b hb⟩
            · refine rAload_n dX7_round_86 rfl ?_
              refine sGetR dX7_round_87 fl_X7_25 hm.1 (by decide) rfl ?_
              refine rIload_n dX7_round_90 rfl ?_
              refine nIald (v := (pStk (hY X i))) dX7_round_91 hm.2.2.2.2.2.2.1 (by omega) (by omega) (by rw [yi.2.2.2.1]) ?_
              refine rIconst (v := (-1)) dX7_round_92 (by decide) ?_
              refine r_icmp_ge (tgt := 100) dX7_round_93 (by decide) (fun c_93 => ?_) (fun c_93 => ?_)
              · have hb9 : stkB (pStk (hY X i)) = 0 := if_neg (fun z => z.elim c_83 (fun z => z c_93))
                refine rIconst (v := (nI (0))) dX7_round_100 (by decide) ?_
                refine rIstore dX7_round_101 (by decide) ?_
                refine rAload_n dX7_round_103 rfl ?_
                refine sGetR dX7_round_104 fl_X7_16 hm.1 (by decide) rfl ?_
                refine rIload_n dX7_round_107 rfl ?_
                refine rAload_n dX7_round_108 rfl ?_
                refine sGetR dX7_round_109 fl_X7_16 hm.1 (by decide) rfl ?_
                refine rIload_n dX7_round_112 rfl ?_
                refine nIald (v := (nI (x))) dX7_round_113 hm.2.2.2.1 (by omega) (by omega) (by rw [y0]) ?_
                refine rIconst (v := (nI (3))) dX7_round_114 (by decide) ?_
                refine nIadd dX7_round_115 ?_
                refine rAload_n dX7_round_116 rfl ?_
                refine sGetR dX7_round_117 fl_X7_16 hm.1 (by decide) rfl ?_
                refine rIload_n dX7_round_120 rfl ?_
                refine nIald (v := (nI (x))) dX7_round_121 hm.2.2.2.1 (by omega) (by omega) (by rw [y0]) ?_
                refine rBipush (v := (nI (10))) dX7_round_122 (by decide) ?_
                refine nIdiv dX7_round_124 (by omega) (by decide) (by decide) ?_
                refine rIconst (v := (nI (3))) dX7_round_125 (by decide) ?_
                refine sCallSp (M' := mX7_least) (rm' := rmD 1 0 0) (As := [.int (nI (x / 10)), .int (nI 3)]) (rest := [.int (nI (x + 3)), .int (nI i), .ref (ad V (m + 3))]) dX7_round_126 rfl mk_X7_least ms_X7_least ll_X7_129 ⟨(Nat.le_of_ble_eq_true rfl), (Nat.le_of_ble_eq_true rfl)⟩ rfl (Nat.le_of_ble_eq_true rfl) (Nat.le_of_ble_eq_true rfl) (c_X7_least (by omega) (by omega)) rfl (Nat.le_of_ble_eq_true rfl) (fun vl el => ?_)
                refine tTop (w := (nI (min (x / 10) 3))) el ?_
                refine nIadd dX7_round_129 ?_
                refine rIload dX7_round_130 rfl ?_
                refine r_if_eq (tgt := 139) dX7_round_132 (by decide) (fun c_132 => ?_) (fun c_132 => ?_)
                · have c_132 : 0 = 0 := (nz_eq (by omega)).mp c_132
                  refine rIconst (v := (nI (0))) dX7_round_139 (by decide) ?_
                  refine nIadd dX7_round_140 ?_
                  refine rBipush (v := (nI (100))) dX7_round_141 (by decide) ?_
                  refine sCallSp (M' := mX7_least) (rm' := rmD 1 0 0) (As := [.int (nI (((x + 3) + (min (x / 10) 3)) + 0)), .int (nI 100)]) (rest := [.int (nI i), .ref (ad V (m + 3))]) dX7_round_143 rfl mk_X7_least ms_X7_least ll_X7_129 ⟨(Nat.le_of_ble_eq_true rfl), (Nat.le_of_ble_eq_true rfl)⟩ rfl (Nat.le_of_ble_eq_true rfl) (Nat.le_of_ble_eq_true rfl) (c_X7_least (by omega) (by omega)) rfl (Nat.le_of_ble_eq_true rfl) (fun vm em => ?_)
                  refine tTop (w := (nI (earnG x (stkB (pStk (hY X i)))))) (em.trans (congrArg nI (by rw [hb9]; unfold earnG; omega))) ?_
                  refine nIast dX7_round_146 hm.2.2.2.1 (by omega) (by omega) ?_
                  refine rIload_n dX7_round_147 rfl ?_
                  refine rAload_n dX7_round_148 rfl ?_
                  refine sGetR dX7_round_149 fl_X7_22 hm.1 (by decide) rfl ?_
                  refine rIload_n dX7_round_152 rfl ?_
                  refine nIald (v := (nI (pHth (hY R i)))) dX7_round_153 hm.2.2.2.2.2.1 (by omega) (by omega) (by rw [sw_a (by omega), y5]) ?_
                  refine r_if_le (tgt := 161) dX7_round_154 (by decide) (fun c_154 => ?_) (fun c_154 => ?_)
                  · have c_154 : (pHth (hY R i)) = 0 := (nz_le (by omega)).mp c_154
                    rw [if_pos c_154] at hz
                    refine rIconst (v := (nI (0))) dX7_round_161 (by decide) ?_
                    refine nIadd dX7_round_162 ?_
                    refine rIstore_n dX7_round_163 (by decide) ?_
                    refine rIinc (v := (nI (i + 1))) dX7_round_164 rfl (by first | exact nI_add _ _ | rfl) (by decide) ?_
                    refine rGoto (tgt := 71) dX7_round_167 (by decide) ?_
                    refine rForget (L := [some (.ref (ad V m)), some (.int (nI 0)), some (.int (nI ((aliN R i) + 0))), some (.int (nI (i + 1))), some (.int (nI 0))]) (L' := [some (.ref (ad V m)), some (.int (nI 0)), some (.int (nI ((aliN R i) + 0))), some (.int (nI (i + 1))), none]) (by exact ⟨rfl, ⟨rfl, ⟨rfl, ⟨rfl, trivial⟩⟩⟩⟩) ?_
                    exact hz (sw y (m + 3) i (nI (earnG x (stkB (pStk (hY X i)))))) ⟨by have g9 := modIs_P (x := wG (hY X i) (earnG x (stkB (pStk (hY X i))))) v1 kx (mPF_1 (a := 3) (v := nI (earnG x (stkB (pStk (hY X i))))) (by decide) (by decide) (by decide) (by decide)) (mpl_G yi); rw [hx, hX] at g9; rw [hx, hX]; exact g9, by rw [sw_a (by omega)]; exact v2, fun b hb => by rw [sw_a (by omega)]; exact v3 b hb⟩
                  · have c_154 : ¬ ((pHth (hY R i)) = 0) := fun h => c_154 ((nz_le (by omega)).mpr h)
                    rw [if_neg c_154] at hz
                    refine rIconst (v := (nI (1))) dX7_round_157 (by decide) ?_
                    refine rGoto (tgt := 162) dX7_round_158 (by decide) ?_
                    refine nIadd dX7_round_162 ?_
                    refine rIstore_n dX7_round_163 (by decide) ?_
                    refine rIinc (v := (nI (i + 1))) dX7_round_164 rfl (by first | exact nI_add _ _ | rfl) (by decide) ?_
                    refine rGoto (tgt := 71) dX7_round_167 (by decide) ?_
                    refine rForget (L := [some (.ref (ad V m)), some (.int (nI 0)), some (.int (nI ((aliN R i) + 1))), some (.int (nI (i + 1))), some (.int (nI 0))]) (L' := [some (.ref (ad V m)), some (.int (nI 0)), some (.int (nI ((aliN R i) + 1))), some (.int (nI (i + 1))), none]) (by exact ⟨rfl, ⟨rfl, ⟨rfl, ⟨rfl, trivial⟩⟩⟩⟩) ?_
                    exact hz (sw y (m + 3) i (nI (earnG x (stkB (pStk (hY X i)))))) ⟨by have g9 := modIs_P (x := wG (hY X i) (earnG x (stkB (pStk (hY X i))))) v1 kx (mPF_1 (a := 3) (v := nI (earnG x (stkB (pStk (hY X i))))) (by decide) (by decide) (by decide) (by decide)) (mpl_G yi); rw [hx, hX] at g9; rw [hx, hX]; exact g9, by rw [sw_a (by omega)]; exact v2, fun b hb => by rw [sw_a (by omega)]; exact v3 b hb⟩
                · have c_132 : ¬ (0 = 0) := fun h => c_132 ((nz_eq (by omega)).mpr h)
                  exact absurd c_132 (by omega)
              · have hb9 : stkB (pStk (hY X i)) = 1 := if_pos (Or.inr c_93)
                refine rIconst (v := (nI (1))) dX7_round_96 (by decide) ?_
                refine rGoto (tgt := 101) dX7_round_97 (by decide) ?_
                refine rIstore dX7_round_101 (by decide) ?_
                refine rAload_n dX7_round_103 rfl ?_
                refine sGetR dX7_round_104 fl_X7_16 hm.1 (by decide) rfl ?_
                refine rIload_n dX7_round_107 rfl ?_
                refine rAload_n dX7_round_108 rfl ?_
                refine sGetR dX7_round_109 fl_X7_16 hm.1 (by decide) rfl ?_
                refine rIload_n dX7_round_112 rfl ?_
                refine nIald (v := (nI (x))) dX7_round_113 hm.2.2.2.1 (by omega) (by omega) (by rw [y0]) ?_
                refine rIconst (v := (nI (3))) dX7_round_114 (by decide) ?_
                refine nIadd dX7_round_115 ?_
                refine rAload_n dX7_round_116 rfl ?_
                refine sGetR dX7_round_117 fl_X7_16 hm.1 (by decide) rfl ?_
                refine rIload_n dX7_round_120 rfl ?_
                refine nIald (v := (nI (x))) dX7_round_121 hm.2.2.2.1 (by omega) (by omega) (by rw [y0]) ?_
                refine rBipush (v := (nI (10))) dX7_round_122 (by decide) ?_
                refine nIdiv dX7_round_124 (by omega) (by decide) (by decide) ?_
                refine rIconst (v := (nI (3))) dX7_round_125 (by decide) ?_
                refine sCallSp (M' := mX7_least) (rm' := rmD 1 0 0) (As := [.int (nI (x / 10)), .int (nI 3)]) (rest := [.int (nI (x + 3)), .int (nI i), .ref (ad V (m + 3))]) dX7_round_126 rfl mk_X7_least ms_X7_least ll_X7_129 ⟨(Nat.le_of_ble_eq_true rfl), (Nat.le_of_ble_eq_true rfl)⟩ rfl (Nat.le_of_ble_eq_true rfl) (Nat.le_of_ble_eq_true rfl) (c_X7_least (by omega) (by omega)) rfl (Nat.le_of_ble_eq_true rfl) (fun vl el => ?_)
                refine tTop (w := (nI (min (x / 10) 3))) el ?_
                refine nIadd dX7_round_129 ?_
                refine rIload dX7_round_130 rfl ?_
                refine r_if_eq (tgt := 139) dX7_round_132 (by decide) (fun c_132 => ?_) (fun c_132 => ?_)
                · have c_132 : 1 = 0 := (nz_eq (by omega)).mp c_132
                  exact absurd c_132 (by omega)
                · have c_132 : ¬ (1 = 0) := fun h => c_132 ((nz_eq (by omega)).mpr h)
                  refine rIconst (v := (nI (1))) dX7_round_135 (by decide) ?_
                  refine rGoto (tgt := 140) dX7_round_136 (by decide) ?_
                  refine nIadd dX7_round_140 ?_
                  refine rBipush (v := (nI (100))) dX7_round_141 (by decide) ?_
                  refine sCallSp (M' := mX7_least) (rm' := rmD 1 0 0) (As := [.int (nI (((x + 3) + (min (x / 10) 3)) + 1)), .int (nI 100)]) (rest := [.int (nI i), .ref (ad V (m + 3))]) dX7_round_143 rfl mk_X7_least ms_X7_least ll_X7_129 ⟨(Nat.le_of_ble_eq_true rfl), (Nat.le_of_ble_eq_true rfl)⟩ rfl (Nat.le_of_ble_eq_true rfl) (Nat.le_of_ble_eq_true rfl) (c_X7_least (by omega) (by omega)) rfl (Nat.le_of_ble_eq_true rfl) (fun vm em => ?_)
                  refine tTop (w := (nI (earnG x (stkB (pStk (hY X i)))))) (em.trans (congrArg nI (by rw [hb9]; unfold earnG; omega))) ?_
                  refine nIast dX7_round_146 hm.2.2.2.1 (by omega) (by omega) ?_
                  refine rIload_n dX7_round_147 rfl ?_
                  refine rAload_n dX7_round_148 rfl ?_
                  refine sGetR dX7_round_149 fl_X7_22 hm.1 (by decide) rfl ?_
                  refine rIload_n dX7_round_152 rfl ?_
                  refine nIald (v := (nI (pHth (hY R i)))) dX7_round_153 hm.2.2.2.2.2.1 (by omega) (by omega) (by rw [sw_a (by omega), y5]) ?_
                  refine r_if_le (tgt := 161) dX7_round_154 (by decide) (fun c_154 => ?_) (fun c_154 => ?_)
                  · have c_154 : (pHth (hY R i)) = 0 := (nz_le (by omega)).mp c_154
                    rw [if_pos c_154] at hz
                    refine rIconst (v := (nI (0))) dX7_round_161 (by decide) ?_
                    refine nIadd dX7_round_162 ?_
                    refine rIstore_n dX7_round_163 (by decide) ?_
                    refine rIinc (v := (nI (i + 1))) dX7_round_164 rfl (by first | exact nI_add _ _ | rfl) (by decide) ?_
                    refine rGoto (tgt := 71) dX7_round_167 (by decide) ?_
                    refine rForget (L := [some (.ref (ad V m)), some (.int (nI 0)), some (.int (nI ((aliN R i) + 0))), some (.int (nI (i + 1))), some (.int (nI 1))]) (L' := [some (.ref (ad V m)), some (.int (nI 0)), some (.int (nI ((aliN R i) + 0))), some (.int (nI (i + 1))), none]) (by exact ⟨rfl, ⟨rfl, ⟨rfl, ⟨rfl, trivial⟩⟩⟩⟩) ?_
                    exact hz (sw y (m + 3) i (nI (earnG x (stkB (pStk (hY X i)))))) ⟨by have g9 := modIs_P (x := wG (hY X i) (earnG x (stkB (pStk (hY X i))))) v1 kx (mPF_1 (a := 3) (v := nI (earnG x (stkB (pStk (hY X i))))) (by decide) (by decide) (by decide) (by decide)) (mpl_G yi); rw [hx, hX] at g9; rw [hx, hX]; exact g9, by rw [sw_a (by omega)]; exact v2, fun b hb => by rw [sw_a (by omega)]; exact v3 b hb⟩
                  · have c_154 : ¬ ((pHth (hY R i)) = 0) := fun h => c_154 ((nz_le (by omega)).mpr h)
                    rw [if_neg c_154] at hz
                    refine rIconst (v := (nI (1))) dX7_round_157 (by decide) ?_
                    refine rGoto (tgt := 162) dX7_round_158 (by decide) ?_
                    refine nIadd dX7_round_162 ?_
                    refine rIstore_n dX7_round_163 (by decide) ?_
                    refine rIinc (v := (nI (i + 1))) dX7_round_164 rfl (by first | exact nI_add _ _ | rfl) (by decide) ?_
                    refine rGoto (tgt := 71) dX7_round_167 (by decide) ?_
                    refine rForget (L := [some (.ref (ad V m)), some (.int (nI 0)), some (.int (nI ((aliN R i) + 1))), some (.int (nI (i + 1))), some (.int (nI 1))]) (L' := [some (.ref (ad V m)), some (.int (nI 0)), some (.int (nI ((aliN R i) + 1))), some (.int (nI (i + 1))), none]) (by exact ⟨rfl, ⟨rfl, ⟨rfl, ⟨rfl, trivial⟩⟩⟩⟩) ?_
                    exact hz (sw y (m + 3) i (nI (earnG x (stkB (pStk (hY X i)))))) ⟨by have g9 := modIs_P (x := wG (hY X i) (earnG x (stkB (pStk (hY X i))))) v1 kx (mPF_1 (a := 3) (v := nI (earnG x (stkB (pStk (hY X i))))) (by decide) (by decide) (by decide) (by decide)) (mpl_G yi); rw [hx, hX] at g9; rw [hx, hX]; exact g9, by rw [sw_a (by omega)]; exact v2, fun b hb => by rw [sw_a (by omega)]; exact v3 b hb⟩
        · have c_46 : 0 = 2 := (nI_eq (by omega) (by omega)).mp c_46
          exact absurd c_46 (by omega)
      · have hrd : rdH h = pairH (pairH h 0 2) 1 3 := by unfold rdH; rw [if_neg (by omega), if_pos hm3]; rfl
        refine rAload_n dX7_round_24 rfl ?_
        refine sGetI (x := (nI (hR h))) dX7_round_25 fl_X7_154 hm.1 (by decide) rfl (by rw [sw_i (by decide), hh.1]) ?_
        refine rIconst (v := (nI (3))) dX7_round_28 (by decide) ?_
        refine nIrem dX7_round_29 (by omega) (by decide) (by decide) ?_
        refine tTop (w := (nI (1))) (congrArg nI hm3) ?_
        refine rIstore_n dX7_round_30 (by decide) ?_
        refine rAload_n dX7_round_31 rfl ?_
        refine rIconst (v := (nI (0))) dX7_round_32 (by decide) ?_
        refine rIconst (v := (nI (1))) dX7_round_33 (by decide) ?_
        refine rIload_n dX7_round_34 rfl ?_
        refine nIadd dX7_round_35 ?_
        refine tTop (w := (nI (2))) rfl ?_
        refine sCallVv (M' := mX7_pairs) (rm' := rmD 6 0 0) (As := [.int (nI 0), .int (nI 2)]) (rest := []) dX7_round_36 rfl mk_X7_pairs mi_X7_pairs ll_X7_157 ⟨(Nat.le_of_ble_eq_true rfl), (Nat.le_of_ble_eq_true rfl)⟩ hm.1 (by decide) rfl rfl (Nat.le_of_ble_eq_true rfl) (Nat.le_of_ble_eq_true rfl) (c_X7_pairs hm (modIs_thr (v := nI 0) hh) hok hB (p := 0) (q := 2) (by decide) (by decide) (by decide)) rfl (Nat.le_of_ble_eq_true rfl) (fun s1 e1 => ?_)
        obtain ⟨d1, g1, f1⟩ := e1
        have k1 := hallOk_pair (p := 0) (q := 2) hok (by decide) (by decide)
        refine rAload_n dX7_round_39 rfl ?_
        refine rIload_n dX7_round_40 rfl ?_
        refine sCallSp (M' := mX7_third) (rm' := rmD 1 0 0) (As := [.int (nI 1)]) (rest := [.ref (ad V m)]) dX7_round_41 rfl mk_X7_third ms_X7_third ll_X7_160 ⟨(Nat.le_of_ble_eq_true rfl), (Nat.le_of_ble_eq_true rfl)⟩ rfl (Nat.le_of_ble_eq_true rfl) (Nat.le_of_ble_eq_true rfl) (c_X7_third (by decide)) rfl (Nat.le_of_ble_eq_true rfl) (fun v3 e3 => ?_)
        refine tTop (w := (nI (1))) (e3.trans rfl) ?_
        refine rIload_n dX7_round_44 rfl ?_
        refine rIconst (v := (nI (2))) dX7_round_45 (by decide) ?_
        refine r_icmp_ne (tgt := 53) dX7_round_46 (by decide) (fun c_46 => ?_) (fun c_46 => ?_)
        · have c_46 : ¬ (1 = 2) := fun h => c_46 ((nI_eq (by omega) (by omega)).mpr h)
          refine rIconst (v := (nI (3))) dX7_round_53 (by decide) ?_
          refine sCallVv (M' := mX7_pairs) (rm' := rmD 6 0 0) (As := [.int (nI 1), .int (nI 3)]) (rest := []) dX7_round_54 rfl mk_X7_pairs mi_X7_pairs ll_X7_157 ⟨(Nat.le_of_ble_eq_true rfl), (Nat.le_of_ble_eq_true rfl)⟩ hm.1 (by decide) rfl rfl (Nat.le_of_ble_eq_true rfl) (Nat.le_of_ble_eq_true rfl) (c_X7_pairs hm d1 k1 hB (p := 1) (q := 3) (by decide) (by decide) (by decide)) rfl (Nat.le_of_ble_eq_true rfl) (fun s2 e2 => ?_)
          obtain ⟨d2, g2, f2⟩ := e2
          have k2 := hallOk_pair (p := 1) (q := 3) k1 (by decide) (by decide)
          rw [← hrd] at d2 k2
          obtain ⟨R, hRR⟩ : ∃ R, R = rdH h := ⟨_, rfl⟩
          rw [← hRR] at d2 k2
          have hRr : hR R = hR h := by rw [hRR]; exact hallR_rd
          have k3 : hallOk B (upR R) := hallRr k2 (by omega)
          refine rAload_n dX7_round_57 rfl ?_
          refine rDup dX7_round_58 rfl ?_
          refine sGetI (x := (nI (hR R))) dX7_round_59 fl_X7_154 hm.1 (by decide) rfl (by rw [d2.1]) ?_
          refine rIconst (v := (nI (1))) dX7_round_62 (by decide) ?_
          refine nIadd dX7_round_63 ?_
          refine sPutI dX7_round_64 fl_X7_154 ft_X7 rfl hm.1 (by decide) rfl rfl rfl ?_
          refine rIconst (v := (nI (0))) dX7_round_67 (by decide) ?_
          refine rIstore_n dX7_round_68 (by decide) ?_
          refine rIconst (v := (nI (0))) dX7_round_69 (by decide) ?_
          refine rIstore_n dX7_round_70 (by decide) ?_
          refine loopW (σ := sgT) (4) (fun i y => [some (.ref (ad V m)), some (.int (nI 1)), some (.int (nI (aliN R i))), some (.int (nI i)), none]) (fun i y => y) (fun i y => modIs y m (eaH (upR R) i) ∧ y m 0 = nI 0 ∧ mFr s y m) (0) (sw s2 m 1 (nI ((hR R) + 1))) (by omega) ⟨modIs_up d2, by rw [sw_i (by decide), g2, g1, sw_s], fun b hb => by rw [sw_a (by omega), f2 b hb, f1 b hb, sw_a (by omega)]⟩ (fun i y hi hinv ih => ?_)
          obtain ⟨v1, v2, v3⟩ := hinv
          refine rIload_n dX7_round_71 rfl ?_
          refine rIconst (v := (nI (4))) dX7_round_72 (by decide) ?_
          refine r_icmp_ge (tgt := 170) dX7_round_73 (by decide) (fun c_73 => ?_) (fun c_73 => ?_)
          · have c_73 : 4 ≤ i := (nI_leI (by omega) (by omega)).mp c_73
            have e : i = 4 := by omega
            subst e
            obtain ⟨E, hE⟩ : ∃ E, E = eaH (upR R) 4 := ⟨_, rfl⟩
            rw [← hE] at v1
            have kE : hallOk B E := hE ▸ hallOk_ea k3 4 (by omega)
            refine rIconst (v := (nI (0))) dX7_round_170 (by decide) ?_
            refine rIstore_n dX7_round_171 (by decide) ?_
            refine loopW (σ := sgT) (4) (fun j z => [some (.ref (ad V m)), some (.int (nI 1)), some (.int (nI (aliN R 4))), some (.int (nI j)), none]) (fun j z => z) (fun j z => modIs z m (fuH E j) ∧ z m 0 = nI 0 ∧ mFr s z m) (0) y (by omega) ⟨v1, v2, v3⟩ (fun j z hj hjnv jh => ?_)
            obtain ⟨w1, w2, w3⟩ := hjnv
            refine rIload_n dX7_round_172 rfl ?_
            refine rIconst (v := (nI (4))) dX7_round_173 (by decide) ?_
            refine r_icmp_ge (tgt := 204) dX7_round_174 (by decide) (fun c_174 => ?_) (fun c_174 => ?_)
            · have c_174 : 4 ≤ j := (nI_leI (by omega) (by omega)).mp c_174
              have e : j = 4 := by omega
              subst e
              rw [hE, eaH_up, fuH_up, hRR] at w1
              have hal : aliN R 4 = aliN (fuH (eaH (rdH h) 4) 4) 4 := (ali_cong (fun k => by rw [fu_h 4, ea_h 4, hRR]) 4)
              refine rIload_n dX7_round_204 rfl ?_
              exact sIret dX7_round_205 rfl rfl (Nat.le_of_ble_eq_true rfl) (Nat.le_of_ble_eq_true rfl) ⟨_, rfl, ⟨w2, fun _ => congrArg nI hal, w1, w3⟩⟩
            · have c_174 : ¬ (4 ≤ j) := fun h => c_174 ((nI_leI (by omega) (by omega)).mpr h)
              have kf := hallOk_fu kE j (by omega)
              obtain ⟨F, hFF⟩ : ∃ F, F = fuH E j := ⟨_, rfl⟩
              rw [← hFF] at w1 kf
              have yj := w1.2.2.2 j (by omega)
              cases hl : pLck (hY F j)
              · have hz : z (m + 8) j = nI 0 := by rw [yj.2.2.2.2.1, hl]; rfl
                refine rAload_n dX7_round_177 rfl ?_
                refine sGetR dX7_round_178 fl_X7_31 hm.1 (by decide) rfl ?_
                refine rIload_n dX7_round_181 rfl ?_
                refine nZald (v := (nI (0))) dX7_round_182 hm.2.2.2.2.2.2.2.2.1 (by omega) (by omega) (by rw [hz]) ?_
                refine r_if_ne (tgt := 191) dX7_round_183 (by decide) (fun c_183 => ?_) (fun c_183 => ?_)
                · have c_183 : ¬ (0 = 0) := fun h => c_183 ((nz_eq (by omega)).mpr h)
                  exact absurd c_183 (by omega)
                · have c_183 : 0 = 0 := (nz_eq (by omega)).mp c_183
                  refine rAload_n dX7_round_186 rfl ?_
                  refine rIload_n dX7_round_187 rfl ?_
                  refine sCallVv (M' := mX7_fills) (rm' := rmD 3 0 0) (As := [.int (nI j)]) (rest := []) dX7_round_188 rfl mk_X7_fills mi_X7_fills ll_X7_89 ⟨(Nat.le_of_ble_eq_true rfl), (Nat.le_of_ble_eq_true rfl)⟩ hm.1 (by decide) rfl rfl (Nat.le_of_ble_eq_true rfl) (Nat.le_of_ble_eq_true rfl) (c_X7_fills hm w1 kf (by omega) (by omega)) rfl (Nat.le_of_ble_eq_true rfl) (fun z1 i => ?_)
                  obtain ⟨i1, i2, i3⟩ := i
                  refine rAload_n dX7_round_191 rfl ?_
                  refine sGetR dX7_round_192 fl_X7_31 hm.1 (by decide) rfl ?_
                  refine rIload_n dX7_round_195 rfl ?_
                  refine rIconst (v := (nI (0))) dX7_round_196 (by decide) ?_
                  refine nZast dX7_round_197 hm.2.2.2.2.2.2.2.2.1 (by omega) (by omega) rfl ?_
                  refine rIinc (v := (nI (j + 1))) dX7_round_198 rfl (by first | exact nI_add _ _ | rfl) (by decide) ?_
                  refine rGoto (tgt := 172) dX7_round_201 (by decide) ?_
                  have kg := hallOk_fill kf (p := j) (by omega)
                  have hs : fuH E (j + 1) = setY (fillH F j) j (wC (hY (fillH F j) j) false) := by simp only [fuH, ← hFF, hl]; rfl
                  have q0 := i1.2.2.2 j (by omega)
                  rw [setY_at] at q0
                  have q1 := modIs_P (x := wC (wC (hY (fillH F j) j) false) false) i1 (hallOk_P kg (plOk_wC (kg.2.2.1 j (by omega)))) (mPF_1 (a := 8) (v := nI 0) (by decide) (by decide) (by decide) (by decide)) (mpl_C q0 rfl)
                  have q2 := modIs_ext (h' := setY (fillH F j) j (wC (hY (fillH F j) j) false)) q1 rfl rfl (fun i hi => (by
                          show (if i = j then _ else if i = j then _ else hY (fillH F j) i) = if i = j then _ else hY (fillH F j) i
                          by_cases e : i = j
                          · rw [if_pos e, if_pos e]
                            rfl
                          · simp only [if_neg e])) rfl
                  exact jh (by omega) (sw z1 (m + 8) j (nI (0))) ⟨by rw [hs]; exact q2, by rw [sw_a (by omega), i2]; exact w2, fun b hb => by rw [sw_a (by omega), i3 b hb]; exact w3 b hb⟩
              · have hz : z (m + 8) j = nI 1 := by rw [yj.2.2.2.2.1, hl]; rfl
                refine rAload_n dX7_round_177 rfl ?_
                refine sGetR dX7_round_178 fl_X7_31 hm.1 (by decide) rfl ?_
                refine rIload_n dX7_round_181 rfl ?_
                refine nZald (v := (nI (1))) dX7_round_182 hm.2.2.2.2.2.2.2.2.1 (by omega) (by omega) (by rw [hz]) ?_
                refine r_if_ne (tgt := 191) dX7_round_183 (by decide) (fun c_183 => ?_) (fun c_183 => ?_)
                · have c_183 : ¬ (1 = 0) := fun h => c_183 ((nz_eq (by omega)).mpr h)
                  refine rAload_n dX7_round_191 rfl ?_
                  refine sGetR dX7_round_192 fl_X7_31 hm.1 (by decide) rfl ?_
                  refine rIload_n dX7_round_195 rfl ?_
                  refine rIconst (v := (nI (0))) dX7_round_196 (by decide) ?_
                  refine nZast dX7_round_197 hm.2.2.2.2.2.2.2.2.1 (by omega) (by omega) rfl ?_
                  refine rIinc (v := (nI (j + 1))) dX7_round_198 rfl (by first | exact nI_add _ _ | rfl) (by decide) ?_
                  refine rGoto (tgt := 172) dX7_round_201 (by decide) ?_
                  have hs : fuH E (j + 1) = setY F j (wC (hY F j) false) := by simp only [fuH, ← hFF, hl]; rfl
                  exact jh (by omega) (sw z (m + 8) j (nI (0))) ⟨by rw [hs]; exact modIs_P w1 kf (mPF_1 (a := 8) (by decide) (by decide) (by decide) (by decide)) (mpl_C yj rfl), by rw [sw_a (by omega)]; exact w2, fun b hb => by rw [sw_a (by omega)]; exact w3 b hb⟩
                · have c_183 : 1 = 0 := (nz_eq (by omega)).mp c_183
                  exact absurd c_183 (by omega)
          · have c_73 : ¬ (4 ≤ i) := fun h => c_73 ((nI_leI (by omega) (by omega)).mpr h)
            obtain ⟨X, hX⟩ : ∃ X, X = eaH (upR R) i := ⟨_, rfl⟩
            rw [← hX] at v1
            have kx : hallOk B X := hX ▸ hallOk_ea k3 i (by omega)
            have yi := v1.2.2.2 i (by omega)
            have hh9 : pHth (hY X i) = pHth (hY R i) := by rw [hX]; exact ea_h i
            have og := (kx.2.2.1 i (by omega)).1
            have oh := (kx.2.2.1 i (by omega)).2.2.2.1
            obtain ⟨x, hx⟩ : ∃ x, x = pGold (hY X i) := ⟨_, rfl⟩
            have y0 : y (m + 3) i = nI x := by rw [hx]; exact yi.1
            rw [← hx] at og
            have y5 : y (m + 5) i = nI (pHth (hY R i)) := yi.2.2.1.trans (congrArg nI hh9)
            rw [hh9] at oh
            have hz := fun (z : sgT) => ih (by omega) z
            simp only [aliN] at hz
            refine rAload_n dX7_round_76 rfl ?_
            refine sGetR dX7_round_77 fl_X7_25 hm.1 (by decide) rfl ?_
            refine rIload_n dX7_round_80 rfl ?_
            refine nIald (v := (pStk (hY X i))) dX7_round_81 hm.2.2.2.2.2.2.1 (by omega) (by omega) (by rw [yi.2.2.2.1]) ?_
            refine rIconst (v := (nI (1))) dX7_round_82 (by decide) ?_
            refine r_icmp_gt (tgt := 96) dX7_round_83 (by decide) (fun c_83 => ?_) (fun c_83 => ?_)
            · have hb9 : stkB (pStk (hY X i)) = 1 := if_pos (Or.inl c_83)
              refine rIconst (v := (nI (1))) dX7_round_96 (by decide) ?_
              refine rGoto (tgt := 101) dX7_round_97 (by decide) ?_
              refine rIstore dX7_round_101 (by decide) ?_
              refine rAload_n dX7_round_103 rfl ?_
              refine sGetR dX7_round_104 fl_X7_16 hm.1 (by decide) rfl ?_
              refine rIload_n dX7_round_107 rfl ?_
              refine rAload_n dX7_round_108 rfl ?_
              refine sGetR dX7_round_109 fl_X7_16 hm.1 (by decide) rfl ?_
              refine rIload_n dX7_round_112 rfl ?_
              refine nIald (v := (nI (x))) dX7_round_113 hm.2.2.2.1 (by omega) (by omega) (by rw [y0]) ?_
              refine rIconst (v := (nI (3))) dX7_round_114 (by decide) ?_
              refine nIadd dX7_round_115 ?_
              refine rAload_n dX7_round_116 rfl ?_
              refine sGetR dX7_round_117 fl_X7_16 hm.1 (by decide) rfl ?_
              refine rIload_n dX7_round_120 rfl ?_
              refine nIald (v := (nI (x))) dX7_round_121 hm.2.2.2.1 (by omega) (by omega) (by rw [y0]) ?_
              refine rBipush (v := (nI (10))) dX7_round_122 (by decide) ?_
              refine nIdiv dX7_round_124 (by omega) (by decide) (by decide) ?_
              refine rIconst (v := (nI (3))) dX7_round_125 (by decide) ?_
              refine sCallSp (M' := mX7_least) (rm' := rmD 1 0 0) (As := [.int (nI (x / 10)), .int (nI 3)]) (rest := [.int (nI (x + 3)), .int (nI i), .ref (ad V (m + 3))]) dX7_round_126 rfl mk_X7_least ms_X7_least ll_X7_129 ⟨(Nat.le_of_ble_eq_true rfl), (Nat.le_of_ble_eq_true rfl)⟩ rfl (Nat.le_of_ble_eq_true rfl) (Nat.le_of_ble_eq_true rfl) (c_X7_least (by omega) (by omega)) rfl (Nat.le_of_ble_eq_true rfl) (fun vl el => ?_)
              refine tTop (w := (nI (min (x / 10) 3))) el ?_
              refine nIadd dX7_round_129 ?_
              refine rIload dX7_round_130 rfl ?_
              refine r_if_eq (tgt := 139) dX7_round_132 (by decide) (fun c_132 => ?_) (fun c_132 => ?_)
              · have c_132 : 1 = 0 := (nz_eq (by omega)).mp c_132
                exact absurd c_132 (by omega)
              · have c_132 : ¬ (1 = 0) := fun h => c_132 ((nz_eq (by omega)).mpr h)
                refine rIconst (v := (nI (1))) dX7_round_135 (by decide) ?_
                refine rGoto (tgt := 140) dX7_round_136 (by decide) ?_
                refine nIadd dX7_round_140 ?_
                refine rBipush (v := (nI (100))) dX7_round_141 (by decide) ?_
                refine sCallSp (M' := mX7_least) (rm' := rmD 1 0 0) (As := [.int (nI (((x + 3) + (min (x / 10) 3)) + 1)), .int (nI 100)]) (rest := [.int (nI i), .ref (ad V (m + 3))]) dX7_round_143 rfl mk_X7_least ms_X7_least ll_X7_129 ⟨(Nat.le_of_ble_eq_true rfl), (Nat.le_of_ble_eq_true rfl)⟩ rfl (Nat.le_of_ble_eq_true rfl) (Nat.le_of_ble_eq_true rfl) (c_X7_least (by omega) (by omega)) rfl (Nat.le_of_ble_eq_true rfl) (fun vm em => ?_)
                refine tTop (w := (nI (earnG x (stkB (pStk (hY X i)))))) (em.trans (congrArg nI (by rw [hb9]; unfold earnG; omega))) ?_
                refine nIast dX7_round_146 hm.2.2.2.1 (by omega) (by omega) ?_
                refine rIload_n dX7_round_147 rfl ?_
                refine rAload_n dX7_round_148 rfl ?_
                refine sGetR dX7_round_149 fl_X7_22 hm.1 (by decide) rfl ?_
                refine rIload_n dX7_round_152 rfl ?_
                refine nIald (v := (nI (pHth (hY R i)))) dX7_round_153 hm.2.2.2.2.2.1 (by omega) (by omega) (by rw [sw_a (by omega), y5]) ?_
                refine r_if_le (tgt := 161) dX7_round_154 (by decide) (fun c_154 => ?_) (fun c_154 => ?_)
                · have c_154 : (pHth (hY R i)) = 0 := (nz_le (by omega)).mp c_154
                  rw [if_pos c_154] at hz
                  refine rIconst (v := (nI (0))) dX7_round_161 (by decide) ?_
                  refine nIadd dX7_round_162 ?_
                  refine rIstore_n dX7_round_163 (by decide) ?_
                  refine rIinc (v := (nI (i + 1))) dX7_round_164 rfl (by first | exact nI_add _ _ | rfl) (by decide) ?_
                  refine rGoto (tgt := 71) dX7_round_167 (by decide) ?_
                  refine rForget (L := [some (.ref (ad V m)), some (.int (nI 1)), some (.int (nI ((aliN R i) + 0))), some (.int (nI (i + 1))), some (.int (nI 1))]) (L' := [some (.ref (ad V m)), some (.int (nI 1)), some (.int (nI ((aliN R i) + 0))), some (.int (nI (i + 1))), none]) (by exact ⟨rfl, ⟨rfl, ⟨rfl, ⟨rfl, trivial⟩⟩⟩⟩) ?_
                  exact hz (sw y (m + 3) i (nI (earnG x (stkB (pStk (hY X i)))))) ⟨by have g9 := modIs_P (x := wG (hY X i) (earnG x (stkB (pStk (hY X i))))) v1 kx (mPF_1 (a := 3) (v := nI (earnG x (stkB (pStk (hY X i))))) (by decide) (by decide) (by decide) (by decide)) (mpl_G yi); rw [hx, hX] at g9; rw [hx, hX]; exact g9, by rw [sw_a (by omega)]; exact v2, fun b hb => by rw [sw_a (by omega)]; exact v3 b hb⟩
                · have c_154 : ¬ ((pHth (hY R i)) = 0) := fun h => c_154 ((nz_le (by omega)).mpr h)
                  rw [if_neg c_154] at hz
                  refine rIconst (v := (nI (1))) dX7_round_157 (by decide) ?_
                  refine rGoto (tgt := 162) dX7_round_158 (by decide) ?_
                  refine nIadd dX7_round_162 ?_
                  refine rIstore_n dX7_round_163 (by decide) ?_
                  refine rIinc (v := (nI (i + 1))) dX7_round_164 rfl (by first | exact nI_add _ _ | rfl) (by decide) ?_
                  refine rGoto (tgt := 71) dX7_round_167 (by decide) ?_
                  refine rForget (L := [some (.ref (ad V m)), some (.int (nI 1)), some (.int (nI ((aliN R i) + 1))), some (.int (nI (i + 1))), some (.int (nI 1))]) (L' := [some (.ref (ad V m)), some (.int (nI 1)), some (.int (nI ((aliN R i) + 1))), some (.int (nI (i + 1))), none]) (by exact ⟨rfl, ⟨rfl, ⟨rfl, ⟨rfl, trivial⟩⟩⟩⟩) ?_
                  exact hz (sw y (m + 3) i (nI (earnG x (stkB (pStk (hY X i)))))) ⟨by have g9 := modIs_P (x := wG (hY X i) (earnG x (stkB (pStk (hY X i))))) v1 kx (mPF_1 (a := 3) (v := nI (earnG x (stkB (pStk (hY X i))))) (by decide) (by decide) (by decide) (by decide)) (mpl_G yi); rw [hx, hX] at g9; rw [hx, hX]; exact g9, by rw [sw_a (by omega)]; exact v2, fun b hb => by rw [sw_a (by omega)]; exact v3 b hb⟩
            · refine rAload_n dX7_round_86 rfl ?_
              refine sGetR dX7_round_87 fl_X7_25 hm.1 (by decide) rfl ?_
              refine rIload_n dX7_round_90 rfl ?_
              refine nIald (v := (pStk (hY X i))) dX7_round_91 hm.2.2.2.2.2.2.1 (by omega) (by omega) (by rw [yi.2.2.2.1]) ?_
              refine rIconst (v := (-1)) dX7_round_92 (by decide) ?_
              refine r_icmp_ge (tgt := 100) dX7_round_93 (by decide) (fun c_93 => ?_) (fun c_93 => ?_)
              · have hb9 : stkB (pStk (hY X i)) = 0 := if_neg (fun z => z.elim c_83 (fun z => z c_93))
                refine rIconst (v := (nI (0))) dX7_round_100 (by decide) ?_
                refine rIstore dX7_round_101 (by decide) ?_
                refine rAload_n dX7_round_103 rfl ?_
                refine sGetR dX7_round_104 fl_X7_16 hm.1 (by decide) rfl ?_
                refine rIload_n dX7_round_107 rfl ?_
                refine rAload_n dX7_round_108 rfl ?_
                refine sGetR dX7_round_109 fl_X7_16 hm.1 (by decide) rfl ?_
                refine rIload_n dX7_round_112 rfl ?_
                refine nIald (v := (nI (x))) dX7_round_113 hm.2.2.2.1 (by omega) (by omega) (by rw [y0]) ?_
                refine rIconst (v := (nI (3))) dX7_round_114 (by decide) ?_
                refine nIadd dX7_round_115 ?_
                refine rAload_n dX7_round_116 rfl ?_
                refine sGetR dX7_round_117 fl_X7_16 hm.1 (by decide) rfl ?_
                refine rIload_n dX7_round_120 rfl ?_
                refine nIald (v := (nI (x))) dX7_round_121 hm.2.2.2.1 (by omega) (by omega) (by rw [y0]) ?_
                refine rBipush (v := (nI (10))) dX7_round_122 (by decide) ?_
                refine nIdiv dX7_round_124 (by omega) (by decide) (by decide) ?_
                refine rIconst (v := (nI (3))) dX7_round_125 (by decide) ?_
                refine sCallSp (M' := mX7_least) (rm' := rmD 1 0 0) (As := [.int (nI (x / 10)), .int (nI 3)]) (rest := [.int (nI (x + 3)), .int (nI i), .ref (ad V (m + 3))]) dX7_round_126 rfl mk_X7_least ms_X7_least ll_X7_129 ⟨(Nat.le_of_ble_eq_true rfl), (Nat.le_of_ble_eq_true rfl)⟩ rfl (Nat.le_of_ble_eq_true rfl) (Nat.le_of_ble_eq_true rfl) (c_X7_least (by omega) (by omega)) rfl (Nat.le_of_ble_eq_true rfl) (fun vl el => ?_)
                refine tTop (w := (nI (min (x / 10) 3))) el ?_
                refine nIadd dX7_round_129 ?_
                refine rIload dX7_round_130 rfl ?_
                refine r_if_eq (tgt := 139) dX7_round_132 (by decide) (fun c_132 => ?_) (fun c_132 => ?_)
                · have c_132 : 0 = 0 := (nz_eq (by omega)).mp c_132
                  refine rIconst (v := (nI (0))) dX7_round_139 (by decide) ?_
                  refine nIadd dX7_round_140 ?_
                  refine rBipush (v := (nI (100))) dX7_round_141 (by decide) ?_
                  refine sCallSp (M' := mX7_least) (rm' := rmD 1 0 0) (As := [.int (nI (((x + 3) + (min (x / 10) 3)) + 0)), .int (nI 100)]) (rest := [.int (nI i), .ref (ad V (m + 3))]) dX7_round_143 rfl mk_X7_least ms_X7_least ll_X7_129 ⟨(Nat.le_of_ble_eq_true rfl), (Nat.le_of_ble_eq_true rfl)⟩ rfl (Nat.le_of_ble_eq_true rfl) (Nat.le_of_ble_eq_true rfl) (c_X7_least (by omega) (by omega)) rfl (Nat.le_of_ble_eq_true rfl) (fun vm em => ?_)
                  refine tTop (w := (nI (earnG x (stkB (pStk (hY X i)))))) (em.trans (congrArg nI (by rw [hb9]; unfold earnG; omega))) ?_
                  refine nIast dX7_round_146 hm.2.2.2.1 (by omega) (by omega) ?_
                  refine rIload_n dX7_round_147 rfl ?_
                  refine rAload_n dX7_round_148 rfl ?_
                  refine sGetR dX7_round_149 fl_X7_22 hm.1 (by decide) rfl ?_
                  refine rIload_n dX7_round_152 rfl ?_
                  refine nIald (v := (nI (pHth (hY R i)))) dX7_round_153 hm.2.2.2.2.2.1 (by omega) (by omega) (by rw [sw_a (by omega), y5]) ?_
                  refine r_if_le (tgt := 161) dX7_round_154 (by decide) (fun c_154 => ?_) (fun c_154 => ?_)
                  · have c_154 : (pHth (hY R i)) = 0 := (nz_le (by omega)).mp c_154
                    rw [if_pos c_154] at hz
                    refine rIconst (v := (nI (0))) dX7_round_161 (by decide) ?_
                    refine nIadd dX7_round_162 ?_
                    refine rIstore_n dX7_round_163 (by decide) ?_
                    refine rIinc (v := (nI (i + 1))) dX7_round_164 rfl (by first | exact nI_add _ _ | rfl) (by decide) ?_
                    refine rGoto (tgt := 71) dX7_round_167 (by decide) ?_
                    refine rForget (L := [some (.ref (ad V m)), some (.int (nI 1)), some (.int (nI ((aliN R i) + 0))), some (.int (nI (i + 1))), some (.int (nI 0))]) (L' := [some (.ref (ad V m)), some (.int (nI 1)), some (.int (nI ((aliN R i) + 0))), some (.int (nI (i + 1))), none]) (by exact ⟨rfl, ⟨rfl, ⟨rfl, ⟨rfl, trivial⟩⟩⟩⟩) ?_
                    exact hz (sw y (m + 3) i (nI (earnG x (stkB (pStk (hY X i)))))) ⟨by have g9 := modIs_P (x := wG (hY X i) (earnG x (stkB (pStk (hY X i))))) v1 kx (mPF_1 (a := 3) (v := nI (earnG x (stkB (pStk (hY X i))))) (by decide) (by decide) (by decide) (by decide)) (mpl_G yi); rw [hx, hX] at g9; rw [hx, hX]; exact g9, by rw [sw_a (by omega)]; exact v2, fun b hb => by rw [sw_a (by omega)]; exact v3 b hb⟩
                  · have c_154 : ¬ ((pHth (hY R i)) = 0) := fun h => c_154 ((nz_le (by omega)).mpr h)
                    rw [if_neg c_154] at hz
                    refine rIconst (v := (nI (1))) dX7_round_157 (by decide) ?_
                    refine rGoto (tgt := 162) dX7_round_158 (by decide) ?_
                    refine nIadd dX7_round_162 ?_
                    refine rIstore_n dX7_round_163 (by decide) ?_
                    refine rIinc (v := (nI (i + 1))) dX7_round_164 rfl (by first | exact nI_add _ _ | rfl) (by decide) ?_
                    refine rGoto (tgt := 71) dX7_round_167 (by decide) ?_
                    refine rForget (L := [some (.ref (ad V m)), some (.int (nI 1)), some (.int (nI ((aliN R i) + 1))), some (.int (nI (i + 1))), some (.int (nI 0))]) (L' := [some (.ref (ad V m)), some (.int (nI 1)), some (.int (nI ((aliN R i) + 1))), some (.int (nI (i + 1))), none]) (by exact ⟨rfl, ⟨rfl, ⟨rfl, ⟨rfl, trivial⟩⟩⟩⟩) ?_
                    exact hz (sw y (m + 3) i (nI (earnG x (stkB (pStk (hY X i)))))) ⟨by have g9 := modIs_P (x := wG (hY X i) (earnG x (stkB (pStk (hY X i))))) v1 kx (mPF_1 (a := 3) (v := nI (earnG x (stkB (pStk (hY X i))))) (by decide) (by decide) (by decide) (by decide)) (mpl_G yi); rw [hx, hX] at g9; rw [hx, hX]; exact g9, by rw [sw_a (by omega)]; exact v2, fun b hb => by rw [sw_a (by omega)]; exact v3 b hb⟩
                · have c_132 : ¬ (0 = 0) := fun h => c_132 ((nz_eq (by omega)).mpr h)
                  exact absurd c_132 (by omega)
              · have hb9 : stkB (pStk (hY X i)) = 1 := if_pos (Or.inr c_93)
                refine rIconst (v := (nI (1))) dX7_round_96 (by decide) ?_
                refine rGoto (tgt := 101) dX7_round_97 (by decide) ?_
                refine rIstore dX7_round_101 (by decide) ?_
                refine rAload_n dX7_round_103 rfl ?_
                refine sGetR dX7_round_104 fl_X7_16 hm.1 (by decide) rfl ?_
                refine rIload_n dX7_round_107 rfl ?_
                refine rAload_n dX7_round_108 rfl ?_
                refine sGetR dX7_round_109 fl_X7_16 hm.1 (by decide) rfl ?_
                refine rIload_n dX7_round_112 rfl ?_
                refine nIald (v := (nI (x))) dX7_round_113 hm.2.2.2.1 (by omega) (by omega) (by rw [y0]) ?_
                refine rIconst (v := (nI (3))) dX7_round_114 (by decide) ?_
                refine nIadd dX7_round_115 ?_
                refine rAload_n dX7_round_116 rfl ?_
                refine sGetR dX7_round_117 fl_X7_16 hm.1 (by decide) rfl ?_
                refine rIload_n dX7_round_120 rfl ?_
                refine nIald (v := (nI (x))) dX7_round_121 hm.2.2.2.1 (by omega) (by omega) (by rw [y0]) ?_
                refine rBipush (v := (nI (10))) dX7_round_122 (by decide) ?_
                refine nIdiv dX7_round_124 (by omega) (by decide) (by decide) ?_
                refine rIconst (v := (nI (3))) dX7_round_125 (by decide) ?_
                refine sCallSp (M' := mX7_least) (rm' := rmD 1 0 0) (As := [.int (nI (x / 10)), .int (nI 3)]) (rest := [.int (nI (x + 3)), .int (nI i), .ref (ad V (m + 3))]) dX7_round_126 rfl mk_X7_least ms_X7_least ll_X7_129 ⟨(Nat.le_of_ble_eq_true rfl), (Nat.le_of_ble_eq_true rfl)⟩ rfl (Nat.le_of_ble_eq_true rfl) (Nat.le_of_ble_eq_true rfl) (c_X7_least (by omega) (by omega)) rfl (Nat.le_of_ble_eq_true rfl) (fun vl el => ?_)
                refine tTop (w := (nI (min (x / 10) 3))) el ?_
                refine nIadd dX7_round_129 ?_
                refine rIload dX7_round_130 rfl ?_
                refine r_if_eq (tgt := 139) dX7_round_132 (by decide) (fun c_132 => ?_) (fun c_132 => ?_)
                · have c_132 : 1 = 0 := (nz_eq (by omega)).mp c_132
                  exact absurd c_132 (by omega)
                · have c_132 : ¬ (1 = 0) := fun h => c_132 ((nz_eq (by omega)).mpr h)
                  refine rIconst (v := (nI (1))) dX7_round_135 (by decide) ?_
                  refine rGoto (tgt := 140) dX7_round_136 (by decide) ?_
                  refine nIadd dX7_round_140 ?_
                  refine rBipush (v := (nI (100))) dX7_round_141 (by decide) ?_
                  refine sCallSp (M' := mX7_least) (rm' := rmD 1 0 0) (As := [.int (nI (((x + 3) + (min (x / 10) 3)) + 1)), .int (nI 100)]) (rest := [.int (nI i), .ref (ad V (m + 3))]) dX7_round_143 rfl mk_X7_least ms_X7_least ll_X7_129 ⟨(Nat.le_of_ble_eq_true rfl), (Nat.le_of_ble_eq_true rfl)⟩ rfl (Nat.le_of_ble_eq_true rfl) (Nat.le_of_ble_eq_true rfl) (c_X7_least (by omega) (by omega)) rfl (Nat.le_of_ble_eq_true rfl) (fun vm em => ?_)
                  refine tTop (w := (nI (earnG x (stkB (pStk (hY X i)))))) (em.trans (congrArg nI (by rw [hb9]; unfold earnG; omega))) ?_
                  refine nIast dX7_round_146 hm.2.2.2.1 (by omega) (by omega) ?_
                  refine rIload_n dX7_round_147 rfl ?_
                  refine rAload_n dX7_round_148 rfl ?_
                  refine sGetR dX7_round_149 fl_X7_22 hm.1 (by decide) rfl ?_
                  refine rIload_n dX7_round_152 rfl ?_
                  refine nIald (v := (nI (pHth (hY R i)))) dX7_round_153 hm.2.2.2.2.2.1 (by omega) (by omega) (by rw [sw_a (by omega), y5]) ?_
                  refine r_if_le (tgt := 161) dX7_round_154 (by decide) (fun c_154 => ?_) (fun c_154 => ?_)
                  · have c_154 : (pHth (hY R i)) = 0 := (nz_le (by omega)).mp c_154
                    rw [if_pos c_154] at hz
                    refine rIconst (v := (nI (0))) dX7_round_161 (by decide) ?_
                    refine nIadd dX7_round_162 ?_
                    refine rIstore_n dX7_round_163 (by decide) ?_
                    refine rIinc (v := (nI (i + 1))) dX7_round_164 rfl (by first | exact nI_add _ _ | rfl) (by decide) ?_
                    refine rGoto (tgt := 71) dX7_round_167 (by decide) ?_
                    refine rForget (L := [some (.ref (ad V m)), some (.int (nI 1)), some (.int (nI ((aliN R i) + 0))), some (.int (nI (i + 1))), some (.int (nI 1))]) (L' := [some (.ref (ad V m)), some (.int (nI 1)), some (.int (nI ((aliN R i) + 0))), some (.int (nI (i + 1))), none]) (by exact ⟨rfl, ⟨rfl, ⟨rfl, ⟨rfl, trivial⟩⟩⟩⟩) ?_
                    exact hz (sw y (m + 3) i (nI (earnG x (stkB (pStk (hY X i)))))) ⟨by have g9 := modIs_P (x := wG (hY X i) (earnG x (stkB (pStk (hY X i))))) v1 kx (mPF_1 (a := 3) (v := nI (earnG x (stkB (pStk (hY X i))))) (by decide) (by decide) (by decide) (by decide)) (mpl_G yi); rw [hx, hX] at g9; rw [hx, hX]; exact g9, by rw [sw_a (by omega)]; exact v2, fun b hb => by rw [sw_a (by omega)]; exact v3 b hb⟩
                  · have c_154 : ¬ ((pHth (hY R i)) = 0) := fun h => c_154 ((nz_le (by omega)).mpr h)
                    rw [if_neg c_154] at hz
                    refine rIconst (v := (nI (1))) dX7_round_157 (by decide) ?_
                    refine rGoto (tgt := 162) dX7_round_158 (by decide) ?_
                    refine nIadd dX7_round_162 ?_
                    refine rIstore_n dX7_round_163 (by decide) ?_
                    refine rIinc (v := (nI (i + 1))) dX7_round_164 rfl (by first | exact nI_add _ _ | rfl) (by decide) ?_
                    refine rGoto (tgt := 71) dX7_round_167 (by decide) ?_
                    refine rForget (L := [some (.ref (ad V m)), some (.int (nI 1)), some (.int (nI ((aliN R i) + 1))), some (.int (nI (i + 1))), some (.int (nI 1))]) (L' := [some (.ref (ad V m)), some (.int (nI 1)), some (.int (nI ((aliN R i) + 1))), some (.int (nI (i + 1))), none]) (by exact ⟨rfl, ⟨rfl, ⟨rfl, ⟨rfl, trivial⟩⟩⟩⟩) ?_
                    exact hz (sw y (m + 3) i (nI (earnG x (stkB (pStk (hY X i)))))) ⟨by have g9 := modIs_P (x := wG (hY X i) (earnG x (stkB (pStk (hY X i))))) v1 kx (mPF_1 (a := 3) (v := nI (earnG x (stkB (pStk (hY X i))))) (by decide) (by decide) (by decide) (by decide)) (mpl_G yi); rw [hx, hX] at g9; rw [hx, hX]; exact g9, by rw [sw_a (by omega)]; exact v2, fun b hb => by rw [sw_a (by omega)]; exact v3 b hb⟩
        · have c_46 : 1 = 2 := (nI_eq (by omega) (by omega)).mp c_46
          exact absurd c_46 (by omega)
      · have hrd : rdH h = pairH (pairH h 0 3) 1 2 := by unfold rdH; rw [if_neg (by omega), if_neg (by omega)]; rfl
        refine rAload_n dX7_round_24 rfl ?_
        refine sGetI (x := (nI (hR h))) dX7_round_25 fl_X7_154 hm.1 (by decide) rfl (by rw [sw_i (by decide), hh.1]) ?_
        refine rIconst (v := (nI (3))) dX7_round_28 (by decide) ?_
        refine nIrem dX7_round_29 (by omega) (by decide) (by decide) ?_
        refine tTop (w := (nI (2))) (congrArg nI hm3) ?_
        refine rIstore_n dX7_round_30 (by decide) ?_
        refine rAload_n dX7_round_31 rfl ?_
        refine rIconst (v := (nI (0))) dX7_round_32 (by decide) ?_
        refine rIconst (v := (nI (1))) dX7_round_33 (by decide) ?_
        refine rIload_n dX7_round_34 rfl ?_
        refine nIadd dX7_round_35 ?_
        refine tTop (w := (nI (3))) rfl ?_
        refine sCallVv (M' := mX7_pairs) (rm' := rmD 6 0 0) (As := [.int (nI 0), .int (nI 3)]) (rest := []) dX7_round_36 rfl mk_X7_pairs mi_X7_pairs ll_X7_157 ⟨(Nat.le_of_ble_eq_true rfl), (Nat.le_of_ble_eq_true rfl)⟩ hm.1 (by decide) rfl rfl (Nat.le_of_ble_eq_true rfl) (Nat.le_of_ble_eq_true rfl) (c_X7_pairs hm (modIs_thr (v := nI 0) hh) hok hB (p := 0) (q := 3) (by decide) (by decide) (by decide)) rfl (Nat.le_of_ble_eq_true rfl) (fun s1 e1 => ?_)
        obtain ⟨d1, g1, f1⟩ := e1
        have k1 := hallOk_pair (p := 0) (q := 3) hok (by decide) (by decide)
        refine rAload_n dX7_round_39 rfl ?_
        refine rIload_n dX7_round_40 rfl ?_
        refine sCallSp (M' := mX7_third) (rm' := rmD 1 0 0) (As := [.int (nI 2)]) (rest := [.ref (ad V m)]) dX7_round_41 rfl mk_X7_third ms_X7_third ll_X7_160 ⟨(Nat.le_of_ble_eq_true rfl), (Nat.le_of_ble_eq_true rfl)⟩ rfl (Nat.le_of_ble_eq_true rfl) (Nat.le_of_ble_eq_true rfl) (c_X7_third (by decide)) rfl (Nat.le_of_ble_eq_true rfl) (fun v3 e3 => ?_)
        refine tTop (w := (nI (1))) (e3.trans rfl) ?_
        refine rIload_n dX7_round_44 rfl ?_
        refine rIconst (v := (nI (2))) dX7_round_45 (by decide) ?_
        refine r_icmp_ne (tgt := 53) dX7_round_46 (by decide) (fun c_46 => ?_) (fun c_46 => ?_)
        · have c_46 : ¬ (2 = 2) := fun h => c_46 ((nI_eq (by omega) (by omega)).mpr h)
          exact absurd c_46 (by omega)
        · have c_46 : 2 = 2 := (nI_eq (by omega) (by omega)).mp c_46
          refine rIconst (v := (nI (2))) dX7_round_49 (by decide) ?_
          refine rGoto (tgt := 54) dX7_round_50 (by decide) ?_
          refine sCallVv (M' := mX7_pairs) (rm' := rmD 6 0 0) (As := [.int (nI 1), .int (nI 2)]) (rest := []) dX7_round_54 rfl mk_X7_pairs mi_X7_pairs ll_X7_157 ⟨(Nat.le_of_ble_eq_true rfl), (Nat.le_of_ble_eq_true rfl)⟩ hm.1 (by decide) rfl rfl (Nat.le_of_ble_eq_true rfl) (Nat.le_of_ble_eq_true rfl) (c_X7_pairs hm d1 k1 hB (p := 1) (q := 2) (by decide) (by decide) (by decide)) rfl (Nat.le_of_ble_eq_true rfl) (fun s2 e2 => ?_)
          obtain ⟨d2, g2, f2⟩ := e2
          have k2 := hallOk_pair (p := 1) (q := 2) k1 (by decide) (by decide)
          rw [← hrd] at d2 k2
          obtain ⟨R, hRR⟩ : ∃ R, R = rdH h := ⟨_, rfl⟩
          rw [← hRR] at d2 k2
          have hRr : hR R = hR h := by rw [hRR]; exact hallR_rd
          have k3 : hallOk B (upR R) := hallRr k2 (by omega)
          refine rAload_n dX7_round_57 rfl ?_
          refine rDup dX7_round_58 rfl ?_
          refine sGetI (x := (nI (hR R))) dX7_round_59 fl_X7_154 hm.1 (by decide) rfl (by rw [d2.1]) ?_
          refine rIconst (v := (nI (1))) dX7_round_62 (by decide) ?_
          refine nIadd dX7_round_63 ?_
          refine sPutI dX7_round_64 fl_X7_154 ft_X7 rfl hm.1 (by decide) rfl rfl rfl ?_
          refine rIconst (v := (nI (0))) dX7_round_67 (by decide) ?_
          refine rIstore_n dX7_round_68 (by decide) ?_
          refine rIconst (v := (nI (0))) dX7_round_69 (by decide) ?_
          refine rIstore_n dX7_round_70 (by decide) ?_
          refine loopW (σ := sgT) (4) (fun i y => [some (.ref (ad V m)), some (.int (nI 2)), some (.int (nI (aliN R i))), some (.int (nI i)), none]) (fun i y => y) (fun i y => modIs y m (eaH (upR R) i) ∧ y m 0 = nI 0 ∧ mFr s y m) (0) (sw s2 m 1 (nI ((hR R) + 1))) (by omega) ⟨modIs_up d2, by rw [sw_i (by decide), g2, g1, sw_s], fun b hb => by rw [sw_a (by omega), f2 b hb, f1 b hb, sw_a (by omega)]⟩ (fun i y hi hinv ih => ?_)
          obtain ⟨v1, v2, v3⟩ := hinv
          refine rIload_n dX7_round_71 rfl ?_
          refine rIconst (v := (nI (4))) dX7_round_72 (by decide) ?_
          refine r_icmp_ge (tgt := 170) dX7_round_73 (by decide) (fun c_73 => ?_) (fun c_73 => ?_)
          · have c_73 : 4 ≤ i := (nI_leI (by omega) (by omega)).mp c_73
            have e : i = 4 := by omega
            subst e
            obtain ⟨E, hE⟩ : ∃ E, E = eaH (upR R) 4 := ⟨_, rfl⟩
            rw [← hE] at v1
            have kE : hallOk B E := hE ▸ hallOk_ea k3 4 (by omega)
            refine rIconst (v := (nI (0))) dX7_round_170 (by decide) ?_
            refine rIstore_n dX7_round_171 (by decide) ?_
            refine loopW (σ := sgT) (4) (fun j z => [some (.ref (ad V m)), some (.int (nI 2)), some (.int (nI (aliN R 4))), some (.int (nI j)), none]) (fun j z => z) (fun j z => modIs z m (fuH E j) ∧ z m 0 = nI 0 ∧ mFr s z m) (0) y (by omega) ⟨v1, v2, v3⟩ (fun j z hj hjnv jh => ?_)
            obtain ⟨w1, w2, w3⟩ := hjnv
            refine rIload_n dX7_round_172 rfl ?_
            refine rIconst (v := (nI (4))) dX7_round_173 (by decide) ?_
            refine r_icmp_ge (tgt := 204) dX7_round_174 (by decide) (fun c_174 => ?_) (fun c_174 => ?_)
            · have c_174 : 4 ≤ j := (nI_leI (by omega) (by omega)).mp c_174
              have e : j = 4 := by omega
              subst e
              rw [hE, eaH_up, fuH_up, hRR] at w1
              have hal : aliN R 4 = aliN (fuH (eaH (rdH h) 4) 4) 4 := (ali_cong (fun k => by rw [fu_h 4, ea_h 4, hRR]) 4)
              refine rIload_n dX7_round_204 rfl ?_
              exact sIret dX7_round_205 rfl rfl (Nat.le_of_ble_eq_true rfl) (Nat.le_of_ble_eq_true rfl) ⟨_, rfl, ⟨w2, fun _ => congrArg nI hal, w1, w3⟩⟩
            · have c_174 : ¬ (4 ≤ j) := fun h => c_174 ((nI_leI (by omega) (by omega)).mpr h)
              have kf := hallOk_fu kE j (by omega)
              obtain ⟨F, hFF⟩ : ∃ F, F = fuH E j := ⟨_, rfl⟩
              rw [← hFF] at w1 kf
              have yj := w1.2.2.2 j (by omega)
              cases hl : pLck (hY F j)
              · have hz : z (m + 8) j = nI 0 := by rw [yj.2.2.2.2.1, hl]; rfl
                refine rAload_n dX7_round_177 rfl ?_
                refine sGetR dX7_round_178 fl_X7_31 hm.1 (by decide) rfl ?_
                refine rIload_n dX7_round_181 rfl ?_
                refine nZald (v := (nI (0))) dX7_round_182 hm.2.2.2.2.2.2.2.2.1 (by omega) (by omega) (by rw [hz]) ?_
                refine r_if_ne (tgt := 191) dX7_round_183 (by decide) (fun c_183 => ?_) (fun c_183 => ?_)
                · have c_183 : ¬ (0 = 0) := fun h => c_183 ((nz_eq (by omega)).mpr h)
                  exact absurd c_183 (by omega)
                · have c_183 : 0 = 0 := (nz_eq (by omega)).mp c_183
                  refine rAload_n dX7_round_186 rfl ?_
                  refine rIload_n dX7_round_187 rfl ?_
                  refine sCallVv (M' := mX7_fills) (rm' := rmD 3 0 0) (As := [.int (nI j)]) (rest := []) dX7_round_188 rfl mk_X7_fills mi_X7_fills ll_X7_89 ⟨(Nat.le_of_ble_eq_true rfl), (Nat.le_of_ble_eq_true rfl)⟩ hm.1 (by decide) rfl rfl (Nat.le_of_ble_eq_true rfl) (Nat.le_of_ble_eq_true rfl) (c_X7_fills hm w1 kf (by omega) (by omega)) rfl (Nat.le_of_ble_eq_true rfl) (fun z1 i => ?_)
                  obtain ⟨i1, i2, i3⟩ := i
                  refine rAload_n dX7_round_191 rfl ?_
                  refine sGetR dX7_round_192 fl_X7_31 hm.1 (by decide) rfl ?_
                  refine rIload_n dX7_round_195 rfl ?_
                  refine rIconst (v := (nI (0))) dX7_round_196 (by decide) ?_
                  refine nZast dX7_round_197 hm.2.2.2.2.2.2.2.2.1 (by omega) (by omega) rfl ?_
                  refine rIinc (v := (nI (j + 1))) dX7_round_198 rfl (by first | exact nI_add _ _ | rfl) (by decide) ?_
                  refine rGoto (tgt := 172) dX7_round_201 (by decide) ?_
                  have kg := hallOk_fill kf (p := j) (by omega)
                  have hs : fuH E (j + 1) = setY (fillH F j) j (wC (hY (fillH F j) j) false) := by simp only [fuH, ← hFF, hl]; rfl
                  have q0 := i1.2.2.2 j (by omega)
                  rw [setY_at] at q0
                  have q1 := modIs_P (x := wC (wC (hY (fillH F j) j) false) false) i1 (hallOk_P kg (plOk_wC (kg.2.2.1 j (by omega)))) (mPF_1 (a := 8) (v := nI 0) (by decide) (by decide) (by decide) (by decide)) (mpl_C q0 rfl)
                  have q2 := modIs_ext (h' := setY (fillH F j) j (wC (hY (fillH F j) j) false)) q1 rfl rfl (fun i hi => (by
                          show (if i = j then _ else if i = j then _ else hY (fillH F j) i) = if i = j then _ else hY (fillH F j) i
                          by_cases e : i = j
                          · rw [if_pos e, if_pos e]
                            rfl
                          · simp only [if_neg e])) rfl
                  exact jh (by omega) (sw z1 (m + 8) j (nI (0))) ⟨by rw [hs]; exact q2, by rw [sw_a (by omega), i2]; exact w2, fun b hb => by rw [sw_a (by omega), i3 b hb]; exact w3 b hb⟩
              · have hz : z (m + 8) j = nI 1 := by rw [yj.2.2.2.2.1, hl]; rfl
                refine rAload_n dX7_round_177 rfl ?_
                refine sGetR dX7_round_178 fl_X7_31 hm.1 (by decide) rfl ?_
                refine rIload_n dX7_round_181 rfl ?_
                refine nZald (v := (nI (1))) dX7_round_182 hm.2.2.2.2.2.2.2.2.1 (by omega) (by omega) (by rw [hz]) ?_
                refine r_if_ne (tgt := 191) dX7_round_183 (by decide) (fun c_183 => ?_) (fun c_183 => ?_)
                · have c_183 : ¬ (1 = 0) := fun h => c_183 ((nz_eq (by omega)).mpr h)
                  refine rAload_n dX7_round_191 rfl ?_
                  refine sGetR dX7_round_192 fl_X7_31 hm.1 (by decide) rfl ?_
                  refine rIload_n dX7_round_195 rfl ?_
                  refine rIconst (v := (nI (0))) dX7_round_196 (by decide) ?_
                  refine nZast dX7_round_197 hm.2.2.2.2.2.2.2.2.1 (by omega) (by omega) rfl ?_
                  refine rIinc (v := (nI (j + 1))) dX7_round_198 rfl (by first | exact nI_add _ _ | rfl) (by decide) ?_
                  refine rGoto (tgt := 172) dX7_round_201 (by decide) ?_
                  have hs : fuH E (j + 1) = setY F j (wC (hY F j) false) := by simp only [fuH, ← hFF, hl]; rfl
                  exact jh (by omega) (sw z (m + 8) j (nI (0))) ⟨by rw [hs]; exact modIs_P w1 kf (mPF_1 (a := 8) (by decide) (by decide) (by decide) (by decide)) (mpl_C yj rfl), by rw [sw_a (by omega)]; exact w2, fun b hb => by rw [sw_a (by omega)]; exact w3 b hb⟩
                · have c_183 : 1 = 0 := (nz_eq (by omega)).mp c_183
                  exact absurd c_183 (by omega)
          · have c_73 : ¬ (4 ≤ i) := fun h => c_73 ((nI_leI (by omega) (by omega)).mpr h)
            obtain ⟨X, hX⟩ : ∃ X, X = eaH (upR R) i := ⟨_, rfl⟩
            rw [← hX] at v1
            have kx : hallOk B X := hX ▸ hallOk_ea k3 i (by omega)
            have yi := v1.2.2.2 i (by omega)
            have hh9 : pHth (hY X i) = pHth (hY R i) := by rw [hX]; exact ea_h i
            have og := (kx.2.2.1 i (by omega)).1
            have oh := (kx.2.2.1 i (by omega)).2.2.2.1
            obtain ⟨x, hx⟩ : ∃ x, x = pGold (hY X i) := ⟨_, rfl⟩
            have y0 : y (m + 3) i = nI x := by rw [hx]; exact yi.1
            rw [← hx] at og
            have y5 : y (m + 5) i = nI (pHth (hY R i)) := yi.2.2.1.trans (congrArg nI hh9)
            rw [hh9] at oh
            have hz := fun (z : sgT) => ih (by omega) z
            simp only [aliN] at hz
            refine rAload_n dX7_round_76 rfl ?_
            refine sGetR dX7_round_77 fl_X7_25 hm.1 (by decide) rfl ?_
            refine rIload_n dX7_round_80 rfl ?_
            refine nIald (v := (pStk (hY X i))) dX7_round_81 hm.2.2.2.2.2.2.1 (by omega) (by omega) (by rw [yi.2.2.2.1]) ?_
            refine rIconst (v := (nI (1))) dX7_round_82 (by decide) ?_
            refine r_icmp_gt (tgt := 96) dX7_round_83 (by decide) (fun c_83 => ?_) (fun c_83 => ?_)
            · have hb9 : stkB (pStk (hY X i)) = 1 := if_pos (Or.inl c_83)
              refine rIconst (v := (nI (1))) dX7_round_96 (by decide) ?_
              refine rGoto (tgt := 101) dX7_round_97 (by decide) ?_
              refine rIstore dX7_round_101 (by decide) ?_
              refine rAload_n dX7_round_103 rfl ?_
              refine sGetR dX7_round_104 fl_X7_16 hm.1 (by decide) rfl ?_
              refine rIload_n dX7_round_107 rfl ?_
              refine rAload_n dX7_round_108 rfl ?_
              refine sGetR dX7_round_109 fl_X7_16 hm.1 (by decide) rfl ?_
              refine rIload_n dX7_round_112 rfl ?_
              refine nIald (v := (nI (x))) dX7_round_113 hm.2.2.2.1 (by omega) (by omega) (by rw [y0]) ?_
              refine rIconst (v := (nI (3))) dX7_round_114 (by decide) ?_
              refine nIadd dX7_round_115 ?_
              refine rAload_n dX7_round_116 rfl ?_
              refine sGetR dX7_round_117 fl_X7_16 hm.1 (by decide) rfl ?_
              refine rIload_n dX7_round_120 rfl ?_
              refine nIald (v := (nI (x))) dX7_round_121 hm.2.2.2.1 (by omega) (by omega) (by rw [y0]) ?_
              refine rBipush (v := (nI (10))) dX7_round_122 (by decide) ?_
              refine nIdiv dX7_round_124 (by omega) (by decide) (by decide) ?_
              refine rIconst (v := (nI (3))) dX7_round_125 (by decide) ?_
              refine sCallSp (M' := mX7_least) (rm' := rmD 1 0 0) (As := [.int (nI (x / 10)), .int (nI 3)]) (rest := [.int (nI (x + 3)), .int (nI i), .ref (ad V (m + 3))]) dX7_round_126 rfl mk_X7_least ms_X7_least ll_X7_129 ⟨(Nat.le_of_ble_eq_true rfl), (Nat.le_of_ble_eq_true rfl)⟩ rfl (Nat.le_of_ble_eq_true rfl) (Nat.le_of_ble_eq_true rfl) (c_X7_least (by omega) (by omega)) rfl (Nat.le_of_ble_eq_true rfl) (fun vl el => ?_)
              refine tTop (w := (nI (min (x / 10) 3))) el ?_
              refine nIadd dX7_round_129 ?_
              refine rIload dX7_round_130 rfl ?_
              refine r_if_eq (tgt := 139) dX7_round_132 (by decide) (fun c_132 => ?_) (fun c_132 => ?_)
              · have c_132 : 1 = 0 := (nz_eq (by omega)).mp c_132
                exact absurd c_132 (by omega)
              · have c_132 : ¬ (1 = 0) := fun h => c_132 ((nz_eq (by omega)).mpr h)
                refine rIconst (v := (nI (1))) dX7_round_135 (by decide) ?_
                refine rGoto (tgt := 140) dX7_round_136 (by decide) ?_
                refine nIadd dX7_round_140 ?_
                refine rBipush (v := (nI (100))) dX7_round_141 (by decide) ?_
                refine sCallSp (M' := mX7_least) (rm' := rmD 1 0 0) (As := [.int (nI (((x + 3) + (min (x / 10) 3)) + 1)), .int (nI 100)]) (rest := [.int (nI i), .ref (ad V (m + 3))]) dX7_round_143 rfl mk_X7_least ms_X7_least ll_X7_129 ⟨(Nat.le_of_ble_eq_true rfl), (Nat.le_of_ble_eq_true rfl)⟩ rfl (Nat.le_of_ble_eq_true rfl) (Nat.le_of_ble_eq_true rfl) (c_X7_least (by omega) (by omega)) rfl (Nat.le_of_ble_eq_true rfl) (fun vm em => ?_)
                refine tTop (w := (nI (earnG x (stkB (pStk (hY X i)))))) (em.trans (congrArg nI (by rw [hb9]; unfold earnG; omega))) ?_
                refine nIast dX7_round_146 hm.2.2.2.1 (by omega) (by omega) ?_
                refine rIload_n dX7_round_147 rfl ?_
                refine rAload_n dX7_round_148 rfl ?_
                refine sGetR dX7_round_149 fl_X7_22 hm.1 (by decide) rfl ?_
                refine rIload_n dX7_round_152 rfl ?_
                refine nIald (v := (nI (pHth (hY R i)))) dX7_round_153 hm.2.2.2.2.2.1 (by omega) (by omega) (by rw [sw_a (by omega), y5]) ?_
                refine r_if_le (tgt := 161) dX7_round_154 (by decide) (fun c_154 => ?_) (fun c_154 => ?_)
                · have c_154 : (pHth (hY R i)) = 0 := (nz_le (by omega)).mp c_154
                  rw [if_pos c_154] at hz
                  refine rIconst (v := (nI (0))) dX7_round_161 (by decide) ?_
                  refine nIadd dX7_round_162 ?_
                  refine rIstore_n dX7_round_163 (by decide) ?_
                  refine rIinc (v := (nI (i + 1))) dX7_round_164 rfl (by first | exact nI_add _ _ | rfl) (by decide) ?_
                  refine rGoto (tgt := 71) dX7_round_167 (by decide) ?_
                  refine rForget (L := [some (.ref (ad V m)), some (.int (nI 2)), some (.int (nI ((aliN R i) + 0))), some (.int (nI (i + 1))), some (.int (nI 1))]) (L' := [some (.ref (ad V m)), some (.int (nI 2)), some (.int (nI ((aliN R i) + 0))), some (.int (nI (i + 1))), none]) (by exact ⟨rfl, ⟨rfl, ⟨rfl, ⟨rfl, trivial⟩⟩⟩⟩) ?_
                  exact hz (sw y (m + 3) i (nI (earnG x (stkB (pStk (hY X i)))))) ⟨by have g9 := modIs_P (x := wG (hY X i) (earnG x (stkB (pStk (hY X i))))) v1 kx (mPF_1 (a := 3) (v := nI (earnG x (stkB (pStk (hY X i))))) (by decide) (by decide) (by decide) (by decide)) (mpl_G yi); rw [hx, hX] at g9; rw [hx, hX]; exact g9, by rw [sw_a (by omega)]; exact v2, fun b hb => by rw [sw_a (by omega)]; exact v3 b hb⟩
                · have c_154 : ¬ ((pHth (hY R i)) = 0) := fun h => c_154 ((nz_le (by omega)).mpr h)
                  rw [if_neg c_154] at hz
                  refine rIconst (v := (nI (1))) dX7_round_157 (by decide) ?_
                  refine rGoto (tgt := 162) dX7_round_158 (by decide) ?_
                  refine nIadd dX7_round_162 ?_
                  refine rIstore_n dX7_round_163 (by decide) ?_
                  refine rIinc (v := (nI (i + 1))) dX7_round_164 rfl (by first | exact nI_add _ _ | rfl) (by decide) ?_
                  refine rGoto (tgt := 71) dX7_round_167 (by decide) ?_
                  refine rForget (L := [some (.ref (ad V m)), some (.int (nI 2)), some (.int (nI ((aliN R i) + 1))), some (.int (nI (i + 1))), some (.int (nI 1))]) (L' := [some (.ref (ad V m)), some (.int (nI 2)), some (.int (nI ((aliN R i) + 1))), some (.int (nI (i + 1))), none]) (by exact ⟨rfl, ⟨rfl, ⟨rfl, ⟨rfl, trivial⟩⟩⟩⟩) ?_
                  exact hz (sw y (m + 3) i (nI (earnG x (stkB (pStk (hY X i)))))) ⟨by have g9 := modIs_P (x := wG (hY X i) (earnG x (stkB (pStk (hY X i))))) v1 kx (mPF_1 (a := 3) (v := nI (earnG x (stkB (pStk (hY X i))))) (by decide) (by decide) (by decide) (by decide)) (mpl_G yi); rw [hx, hX] at g9; rw [hx, hX]; exact g9, by rw [sw_a (by omega)]; exact v2, fun b hb => by rw [sw_a (by omega)]; exact v3 b hb⟩
            · refine rAload_n dX7_round_86 rfl ?_
              refine sGetR dX7_round_87 fl_X7_25 hm.1 (by decide) rfl ?_
              refine rIload_n dX7_round_90 rfl ?_
              refine nIald (v := (pStk (hY X i))) dX7_round_91 hm.2.2.2.2.2.2.1 (by omega) (by omega) (by rw [yi.2.2.2.1]) ?_
              refine rIconst (v := (-1)) dX7_round_92 (by decide) ?_
              refine r_icmp_ge (tgt := 100) dX7_round_93 (by decide) (fun c_93 => ?_) (fun c_93 => ?_)
              · have hb9 : stkB (pStk (hY X i)) = 0 := if_neg (fun z => z.elim c_83 (fun z => z c_93))
                refine rIconst (v := (nI (0))) dX7_round_100 (by decide) ?_
                refine rIstore dX7_round_101 (by decide) ?_
                refine rAload_n dX7_round_103 rfl ?_
                refine sGetR dX7_round_104 fl_X7_16 hm.1 (by decide) rfl ?_
                refine rIload_n dX7_round_107 rfl ?_
                refine rAload_n dX7_round_108 rfl ?_
                refine sGetR dX7_round_109 fl_X7_16 hm.1 (by decide) rfl ?_
                refine rIload_n dX7_round_112 rfl ?_
                refine nIald (v := (nI (x))) dX7_round_113 hm.2.2.2.1 (by omega) (by omega) (by rw [y0]) ?_
                refine rIconst (v := (nI (3))) dX7_round_114 (by decide) ?_
                refine nIadd dX7_round_115 ?_
                refine rAload_n dX7_round_116 rfl ?_
                refine sGetR dX7_round_117 fl_X7_16 hm.1 (by decide) rfl ?_
                refine rIload_n dX7_round_120 rfl ?_
                refine nIald (v := (nI (x))) dX7_round_121 hm.2.2.2.1 (by omega) (by omega) (by rw [y0]) ?_
                refine rBipush (v := (nI (10))) dX7_round_122 (by decide) ?_
                refine nIdiv dX7_round_124 (by omega) (by decide) (by decide) ?_
                refine rIconst (v := (nI (3))) dX7_round_125 (by decide) ?_
                refine sCallSp (M' := mX7_least) (rm' := rmD 1 0 0) (As := [.int (nI (x / 10)), .int (nI 3)]) (rest := [.int (nI (x + 3)), .int (nI i), .ref (ad V (m + 3))]) dX7_round_126 rfl mk_X7_least ms_X7_least ll_X7_129 ⟨(Nat.le_of_ble_eq_true rfl), (Nat.le_of_ble_eq_true rfl)⟩ rfl (Nat.le_of_ble_eq_true rfl) (Nat.le_of_ble_eq_true rfl) (c_X7_least (by omega) (by omega)) rfl (Nat.le_of_ble_eq_true rfl) (fun vl el => ?_)
                refine tTop (w := (nI (min (x / 10) 3))) el ?_
                refine nIadd dX7_round_129 ?_
                refine rIload dX7_round_130 rfl ?_
                refine r_if_eq (tgt := 139) dX7_round_132 (by decide) (fun c_132 => ?_) (fun c_132 => ?_)
                · have c_132 : 0 = 0 := (nz_eq (by omega)).mp c_132
                  refine rIconst (v := (nI (0))) dX7_round_139 (by decide) ?_
                  refine nIadd dX7_round_140 ?_
                  refine rBipush (v := (nI (100))) dX7_round_141 (by decide) ?_
                  refine sCallSp (M' := mX7_least) (rm' := rmD 1 0 0) (As := [.int (nI (((x + 3) + (min (x / 10) 3)) + 0)), .int (nI 100)]) (rest := [.int (nI i), .ref (ad V (m + 3))]) dX7_round_143 rfl mk_X7_least ms_X7_least ll_X7_129 ⟨(Nat.le_of_ble_eq_true rfl), (Nat.le_of_ble_eq_true rfl)⟩ rfl (Nat.le_of_ble_eq_true rfl) (Nat.le_of_ble_eq_true rfl) (c_X7_least (by omega) (by omega)) rfl (Nat.le_of_ble_eq_true rfl) (fun vm em => ?_)
                  refine tTop (w := (nI (earnG x (stkB (pStk (hY X i)))))) (em.trans (congrArg nI (by rw [hb9]; unfold earnG; omega))) ?_
                  refine nIast dX7_round_146 hm.2.2.2.1 (by omega) (by omega) ?_
                  refine rIload_n dX7_round_147 rfl ?_
                  refine rAload_n dX7_round_148 rfl ?_
                  refine sGetR dX7_round_149 fl_X7_22 hm.1 (by decide) rfl ?_
                  refine rIload_n dX7_round_152 rfl ?_
                  refine nIald (v := (nI (pHth (hY R i)))) dX7_round_153 hm.2.2.2.2.2.1 (by omega) (by omega) (by rw [sw_a (by omega), y5]) ?_
                  refine r_if_le (tgt := 161) dX7_round_154 (by decide) (fun c_154 => ?_) (fun c_154 => ?_)
                  · have c_154 : (pHth (hY R i)) = 0 := (nz_le (by omega)).mp c_154
                    rw [if_pos c_154] at hz
                    refine rIconst (v := (nI (0))) dX7_round_161 (by decide) ?_
                    refine nIadd dX7_round_162 ?_
                    refine rIstore_n dX7_round_163 (by decide) ?_
                    refine rIinc (v := (nI (i + 1))) dX7_round_164 rfl (by first | exact nI_add _ _ | rfl) (by decide) ?_
                    refine rGoto (tgt := 71) dX7_round_167 (by decide) ?_
                    refine rForget (L := [some (.ref (ad V m)), some (.int (nI 2)), some (.int (nI ((aliN R i) + 0))), some (.int (nI (i + 1))), some (.int (nI 0))]) (L' := [some (.ref (ad V m)), some (.int (nI 2)), some (.int (nI ((aliN R i) + 0))), some (.int (nI (i + 1))), none]) (by exact ⟨rfl, ⟨rfl, ⟨rfl, ⟨rfl, trivial⟩⟩⟩⟩) ?_
                    exact hz (sw y (m + 3) i (nI (earnG x (stkB (pStk (hY X i)))))) ⟨by have g9 := modIs_P (x := wG (hY X i) (earnG x (stkB (pStk (hY X i))))) v1 kx (mPF_1 (a := 3) (v := nI (earnG x (stkB (pStk (hY X i))))) (by decide) (by decide) (by decide) (by decide)) (mpl_G yi); rw [hx, hX] at g9; rw [hx, hX]; exact g9, by rw [sw_a (by omega)]; exact v2, fun b hb => by rw [sw_a (by omega)]; exact v3 b hb⟩
                  · have c_154 : ¬ ((pHth (hY R i)) = 0) := fun h => c_154 ((nz_le (by omega)).mpr h)
                    rw [if_neg c_154] at hz
                    refine rIconst (v := (nI (1))) dX7_round_157 (by decide) ?_
                    refine rGoto (tgt := 162) dX7_round_158 (by decide) ?_
                    refine nIadd dX7_round_162 ?_
                    refine rIstore_n dX7_round_163 (by decide) ?_
                    refine rIinc (v := (nI (i + 1))) dX7_round_164 rfl (by first | exact nI_add _ _ | rfl) (by decide) ?_
                    refine rGoto (tgt := 71) dX7_round_167 (by decide) ?_
                    refine rForget (L := [some (.ref (ad V m)), some (.int (nI 2)), some (.int (nI ((aliN R i) + 1))), some (.int (nI (i + 1))), some (.int (nI 0))]) (L' := [some (.ref (ad V m)), some (.int (nI 2)), some (.int (nI ((aliN R i) + 1))), some (.int (nI (i + 1))), none]) (by exact ⟨rfl, ⟨rfl, ⟨rfl, ⟨rfl, trivial⟩⟩⟩⟩) ?_
                    exact hz (sw y (m + 3) i (nI (earnG x (stkB (pStk (hY X i)))))) ⟨by have g9 := modIs_P (x := wG (hY X i) (earnG x (stkB (pStk (hY X i))))) v1 kx (mPF_1 (a := 3) (v := nI (earnG x (stkB (pStk (hY X i))))) (by decide) (by decide) (by decide) (by decide)) (mpl_G yi); rw [hx, hX] at g9; rw [hx, hX]; exact g9, by rw [sw_a (by omega)]; exact v2, fun b hb => by rw [sw_a (by omega)]; exact v3 b hb⟩
                · have c_132 : ¬ (0 = 0) := fun h => c_132 ((nz_eq (by omega)).mpr h)
                  exact absurd c_132 (by omega)
              · have hb9 : stkB (pStk (hY X i)) = 1 := if_pos (Or.inr c_93)
                refine rIconst (v := (nI (1))) dX7_round_96 (by decide) ?_
                refine rGoto (tgt := 101) dX7_round_97 (by decide) ?_
                refine rIstore dX7_round_101 (by decide) ?_
                refine rAload_n dX7_round_103 rfl ?_
                refine sGetR dX7_round_104 fl_X7_16 hm.1 (by decide) rfl ?_
                refine rIload_n dX7_round_107 rfl ?_
                refine rAload_n dX7_round_108 rfl ?_
                refine sGetR dX7_round_109 fl_X7_16 hm.1 (by decide) rfl ?_
                refine rIload_n dX7_round_112 rfl ?_
                refine nIald (v := (nI (x))) dX7_round_113 hm.2.2.2.1 (by omega) (by omega) (by rw [y0]) ?_
                refine rIconst (v := (nI (3))) dX7_round_114 (by decide) ?_
                refine nIadd dX7_round_115 ?_
                refine rAload_n dX7_round_116 rfl ?_
                refine sGetR dX7_round_117 fl_X7_16 hm.1 (by decide) rfl ?_
                refine rIload_n dX7_round_120 rfl ?_
                refine nIald (v := (nI (x))) dX7_round_121 hm.2.2.2.1 (by omega) (by omega) (by rw [y0]) ?_
                refine rBipush (v := (nI (10))) dX7_round_122 (by decide) ?_
                refine nIdiv dX7_round_124 (by omega) (by decide) (by decide) ?_
                refine rIconst (v := (nI (3))) dX7_round_125 (by decide) ?_
                refine sCallSp (M' := mX7_least) (rm' := rmD 1 0 0) (As := [.int (nI (x / 10)), .int (nI 3)]) (rest := [.int (nI (x + 3)), .int (nI i), .ref (ad V (m + 3))]) dX7_round_126 rfl mk_X7_least ms_X7_least ll_X7_129 ⟨(Nat.le_of_ble_eq_true rfl), (Nat.le_of_ble_eq_true rfl)⟩ rfl (Nat.le_of_ble_eq_true rfl) (Nat.le_of_ble_eq_true rfl) (c_X7_least (by omega) (by omega)) rfl (Nat.le_of_ble_eq_true rfl) (fun vl el => ?_)
                refine tTop (w := (nI (min (x / 10) 3))) el ?_
                refine nIadd dX7_round_129 ?_
                refine rIload dX7_round_130 rfl ?_
                refine r_if_eq (tgt := 139) dX7_round_132 (by decide) (fun c_132 => ?_) (fun c_132 => ?_)
                · have c_132 : 1 = 0 := (nz_eq (by omega)).mp c_132
                  exact absurd c_132 (by omega)
                · have c_132 : ¬ (1 = 0) := fun h => c_132 ((nz_eq (by omega)).mpr h)
                  refine rIconst (v := (nI (1))) dX7_round_135 (by decide) ?_
                  refine rGoto (tgt := 140) dX7_round_136 (by decide) ?_
                  refine nIadd dX7_round_140 ?_
                  refine rBipush (v := (nI (100))) dX7_round_141 (by decide) ?_
                  refine sCallSp (M' := mX7_least) (rm' := rmD 1 0 0) (As := [.int (nI (((x + 3) + (min (x / 10) 3)) + 1)), .int (nI 100)]) (rest := [.int (nI i), .ref (ad V (m + 3))]) dX7_round_143 rfl mk_X7_least ms_X7_least ll_X7_129 ⟨(Nat.le_of_ble_eq_true rfl), (Nat.le_of_ble_eq_true rfl)⟩ rfl (Nat.le_of_ble_eq_true rfl) (Nat.le_of_ble_eq_true rfl) (c_X7_least (by omega) (by omega)) rfl (Nat.le_of_ble_eq_true rfl) (fun vm em => ?_)
                  refine tTop (w := (nI (earnG x (stkB (pStk (hY X i)))))) (em.trans (congrArg nI (by rw [hb9]; unfold earnG; omega))) ?_
                  refine nIast dX7_round_146 hm.2.2.2.1 (by omega) (by omega) ?_
                  refine rIload_n dX7_round_147 rfl ?_
                  refine rAload_n dX7_round_148 rfl ?_
                  refine sGetR dX7_round_149 fl_X7_22 hm.1 (by decide) rfl ?_
                  refine rIload_n dX7_round_152 rfl ?_
                  refine nIald (v := (nI (pHth (hY R i)))) dX7_round_153 hm.2.2.2.2.2.1 (by omega) (by omega) (by rw [sw_a (by omega), y5]) ?_
                  refine r_if_le (tgt := 161) dX7_round_154 (by decide) (fun c_154 => ?_) (fun c_154 => ?_)
                  · have c_154 : (pHth (hY R i)) = 0 := (nz_le (by omega)).mp c_154
                    rw [if_pos c_154] at hz
                    refine rIconst (v := (nI (0))) dX7_round_161 (by decide) ?_
                    refine nIadd dX7_round_162 ?_
                    refine rIstore_n dX7_round_163 (by decide) ?_
                    refine rIinc (v := (nI (i + 1))) dX7_round_164 rfl (by first | exact nI_add _ _ | rfl) (by decide) ?_
                    refine rGoto (tgt := 71) dX7_round_167 (by decide) ?_
                    refine rForget (L := [some (.ref (ad V m)), some (.int (nI 2)), some (.int (nI ((aliN R i) + 0))), some (.int (nI (i + 1))), some (.int (nI 1))]) (L' := [some (.ref (ad V m)), some (.int (nI 2)), some (.int (nI ((aliN R i) + 0))), some (.int (nI (i + 1))), none]) (by exact ⟨rfl, ⟨rfl, ⟨rfl, ⟨rfl, trivial⟩⟩⟩⟩) ?_
                    exact hz (sw y (m + 3) i (nI (earnG x (stkB (pStk (hY X i)))))) ⟨by have g9 := modIs_P (x := wG (hY X i) (earnG x (stkB (pStk (hY X i))))) v1 kx (mPF_1 (a := 3) (v := nI (earnG x (stkB (pStk (hY X i))))) (by decide) (by decide) (by decide) (by decide)) (mpl_G yi); rw [hx, hX] at g9; rw [hx, hX]; exact g9, by rw [sw_a (by omega)]; exact v2, fun b hb => by rw [sw_a (by omega)]; exact v3 b hb⟩
                  · have c_154 : ¬ ((pHth (hY R i)) = 0) := fun h => c_154 ((nz_le (by omega)).mpr h)
                    rw [if_neg c_154] at hz
                    refine rIconst (v := (nI (1))) dX7_round_157 (by decide) ?_
                    refine rGoto (tgt := 162) dX7_round_158 (by decide) ?_
                    refine nIadd dX7_round_162 ?_
                    refine rIstore_n dX7_round_163 (by decide) ?_
                    refine rIinc (v := (nI (i + 1))) dX7_round_164 rfl (by first | exact nI_add _ _ | rfl) (by decide) ?_
                    refine rGoto (tgt := 71) dX7_round_167 (by decide) ?_
                    refine rForget (L := [some (.ref (ad V m)), some (.int (nI 2)), some (.int (nI ((aliN R i) + 1))), some (.int (nI (i + 1))), some (.int (nI 1))]) (L' := [some (.ref (ad V m)), some (.int (nI 2)), some (.int (nI ((aliN R i) + 1))), some (.int (nI (i + 1))), none]) (by exact ⟨rfl, ⟨rfl, ⟨rfl, ⟨rfl, trivial⟩⟩⟩⟩) ?_
                    exact hz (sw y (m + 3) i (nI (earnG x (stkB (pStk (hY X i)))))) ⟨by have g9 := modIs_P (x := wG (hY X i) (earnG x (stkB (pStk (hY X i))))) v1 kx (mPF_1 (a := 3) (v := nI (earnG x (stkB (pStk (hY X i))))) (by decide) (by decide) (by decide) (by decide)) (mpl_G yi); rw [hx, hX] at g9; rw [hx, hX]; exact g9, by rw [sw_a (by omega)]; exact v2, fun b hb => by rw [sw_a (by omega)]; exact v3 b hb⟩
    · have c_19 : 1 = 0 := (nz_eq (by omega)).mp c_19
      exact absurd c_19 (by omega)
  · have c_8 : (hR h) = 200 := (nI_eq (by omega) (by omega)).mp c_8
    have hF : fRound h = (1, 0, h) := by simp only [fRound, if_pos (show 200 ≤ hR h by omega)]
    rw [hF]
    refine rIconst (v := (nI (1))) dX7_round_11 (by decide) ?_
    refine rGoto (tgt := 16) dX7_round_12 (by decide) ?_
    refine sCallVi (M' := mX7_holds) (rm' := rmD 1 0 0) (As := [.int (nI 1)]) (rest := []) dX7_round_16 rfl mk_X7_holds mi_X7_holds ll_X7_71 ⟨(Nat.le_of_ble_eq_true rfl), (Nat.le_of_ble_eq_true rfl)⟩ hm.1 (by decide) rfl rfl (Nat.le_of_ble_eq_true rfl) (Nat.le_of_ble_eq_true rfl) (c_X7_holds hm (by omega)) rfl (Nat.le_of_ble_eq_true rfl) (fun v16 t16 e16 => ?_)
    obtain ⟨rfl, rfl⟩ := e16
    refine tTop (w := (nI (0))) (if_neg (by decide)) ?_
    refine r_if_ne (tgt := 24) dX7_round_19 (by decide) (fun c_19 => ?_) (fun c_19 => ?_)
    · have c_19 : ¬ (0 = 0) := fun h => c_19 ((nz_eq (by omega)).mpr h)
      exact absurd c_19 (by omega)
    · have c_19 : 0 = 0 := (nz_eq (by omega)).mp c_19
      refine rIconst (v := (nI (0))) dX7_round_22 (by decide) ?_
      exact sIret dX7_round_23 rfl rfl (Nat.le_of_ble_eq_true rfl) (Nat.le_of_ble_eq_true rfl) ⟨_, rfl, ⟨sw_s, fun e => absurd e (Nat.succ_ne_zero _), modIs_thr hh, fun b hb => sw_a (by omega)⟩⟩
