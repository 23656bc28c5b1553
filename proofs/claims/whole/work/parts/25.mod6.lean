/-! the reference: merging, buy, toBench (by program) -/
def tkB (b : bbT) (k : Nat) : bbT := if k < b.1.length then (b.1.eraseIdx k, b.2) else (b.1, b.2.eraseIdx (k - b.1.length))
def stB (b : bbT) (k v : Nat) : bbT := if k < b.1.length then (b.1.set k v, b.2) else (b.1, b.2.set (k - b.1.length) v)
def pF (C : List Nat) (u : Nat) : Nat → Nat → Option Nat
  | 0, _ => none
  | f + 1, k => if C.getD k 0 = u then some k else pF C u f (k + 1)
def pFst (b : bbT) (u k : Nat) : Option Nat := pF (b.1 ++ b.2) u (b.1.length + b.2.length - k) k
theorem pF_find {C : List Nat} {u i : Nat} : ∀ {f k : Nat}, k ≤ i → i < k + f → C.getD i 0 = u → (∀ j, k ≤ j → j < i → C.getD j 0 ≠ u) → pF C u f k = some i
  | 0, k, h1, h2, _, _ => absurd h2 (by omega)
  | f + 1, k, h1, h2, h3, h4 => by
    simp only [pF]
    by_cases e : k = i
    · subst e
      rw [if_pos h3]
    · rw [if_neg (h4 k (Nat.le_refl _) (by omega))]
      exact pF_find (by omega) (by omega) h3 (fun j a b => h4 j (by omega) b)
theorem set_era : ∀ (l : List Nat) (f g v : Nat), f < g → (l.eraseIdx g).set f v = (l.set f v).eraseIdx g
  | [], _, _, _, _ => by simp
  | a :: l, 0, 0, _, h => absurd h (by omega)
  | a :: l, 0, g + 1, v, _ => by simp
  | a :: l, f + 1, 0, _, h => absurd h (by omega)
  | a :: l, f + 1, g + 1, v, h => by simp [set_era l f g v (by omega)]
theorem tk_st {b : bbT} {f g v : Nat} (h : f < g) (hg : g < b.1.length + b.2.length) : stB (tkB b g) f v = tkB (stB b f v) g := by
  unfold stB tkB
  by_cases h1 : g < b.1.length
  · have h2 : f < b.1.length := by omega
    have h3 : f < (b.1.eraseIdx g).length := by have := era_len h1; omega
    simp only [h1, h2, h3, if_true, List.length_set, set_era _ _ _ _ h]
  · by_cases h2 : f < b.1.length
    · simp only [h1, h2, if_true, if_false, List.length_set]
    · simp only [h1, h2, if_false]
      rw [set_era _ _ _ _ (by omega)]
theorem cat_st {b : bbT} {f v : Nat} : (stB b f v).1 ++ (stB b f v).2 = (b.1 ++ b.2).set f v := by
  unfold stB
  rw [List.set_append]
  split <;> rfl
theorem cat_tk {b : bbT} {g : Nat} : (tkB b g).1 ++ (tkB b g).2 = (b.1 ++ b.2).eraseIdx g := by
  unfold tkB
  split
  · rename_i h
    exact (List.eraseIdx_append_of_lt_length h _).symm
  · rename_i h
    exact (List.eraseIdx_append_of_length_le (Nat.le_of_not_lt h) _).symm
theorem rep_st {b : bbT} {u : Nat} : repU b u = stB b ((b.1 ++ b.2).idxOf u) (u + 1) := by
  unfold repU stB
  rw [List.idxOf_append]
  by_cases h : u ∈ b.1
  · have h1 := (idx_lt h).1
    simp only [h, h1, if_true]
  · have h1 : ¬ b.2.idxOf u + b.1.length < b.1.length := by omega
    simp only [h, h1, if_false, Nat.add_sub_cancel]
theorem era_tk {b : bbT} {u : Nat} : eraU b u = tkB b ((b.1 ++ b.2).idxOf u) := by
  unfold eraU tkB
  rw [List.idxOf_append]
  by_cases h : u ∈ b.1
  · have h1 := (idx_lt h).1
    simp only [h, h1, if_true]
  · have h1 : ¬ b.2.idxOf u + b.1.length < b.1.length := by omega
    simp only [h, h1, if_false, Nat.add_sub_cancel]
theorem cnt_mem {b : bbT} {u : Nat} (h : 0 < cntU b u) : u ∈ b.1 ++ b.2 := by
  unfold cntU at h
  exact List.count_pos_iff.mp (by rw [List.count_append]; exact h)
theorem idx_min : ∀ {l : List Nat} {u j : Nat}, j < l.idxOf u → l.getD j 0 ≠ u ∨ l.length ≤ j
  | [], u, j, h => Or.inr (Nat.zero_le _)
  | a :: l, u, j, h => by
    by_cases e : a = u
    · subst e
      simp [List.idxOf_cons] at h
    · have e1 : (a :: l).idxOf u = l.idxOf u + 1 := by rw [List.idxOf_cons, show (a == u) = false by simp [e]]; rfl
      rw [e1] at h
      cases j with
      | zero => exact Or.inl e
      | succ j =>
        rcases idx_min (l := l) (u := u) (j := j) (by omega) with z | z
        · exact Or.inl z
        · exact Or.inr (Nat.succ_le_succ z)
/-- one taking, seen by both -/
theorem mstep {b : bbT} {u f : Nat} (hf : f < b.1.length + b.2.length) (hb : ∀ j, j < f → (b.1 ++ b.2).getD j 0 ≠ u) (hc : 0 < cntU (stB b f (u + 1)) u) :
    ∃ g, f < g ∧ g < b.1.length + b.2.length ∧ pFst b u (f + 1) = some g ∧ eraU (stB b f (u + 1)) u = stB (tkB b g) f (u + 1) ∧ f < (tkB b g).1.length + (tkB b g).2.length ∧ (∀ j, j < f → ((tkB b g).1 ++ (tkB b g).2).getD j 0 ≠ u) := by
  have hm := cnt_mem hc
  rw [cat_st] at hm
  obtain ⟨g, hg⟩ : ∃ g, g = ((b.1 ++ b.2).set f (u + 1)).idxOf u := ⟨_, rfl⟩
  obtain ⟨h1, h2⟩ := idx_lt hm
  rw [← hg] at h1 h2
  have hl : (b.1 ++ b.2).length = b.1.length + b.2.length := List.length_append
  rw [List.length_set, hl] at h1
  rw [set_get (by omega)] at h2
  have hgf : g ≠ f := fun e => by rw [if_pos e] at h2; omega
  rw [if_neg hgf] at h2
  have hfg : f < g := by
    rcases Nat.lt_or_ge f g with z | z
    · exact z
    · exact absurd h2 (hb g (by omega))
  have hmin : ∀ j, f + 1 ≤ j → j < g → (b.1 ++ b.2).getD j 0 ≠ u := by
    intro j a1 a2
    rw [hg] at a2
    rcases idx_min a2 with z | z
    · rw [set_get (by omega), if_neg (by omega)] at z
      exact z
    · rw [List.length_set, hl] at z
      rw [← hg] at a2
      omega
  have hlen : (tkB b g).1.length + (tkB b g).2.length + 1 = b.1.length + b.2.length := by
    have := congrArg List.length (cat_tk (b := b) (g := g))
    rw [List.length_append, List.length_eraseIdx_of_lt (by omega), hl] at this
    omega
  refine ⟨g, hfg, h1, pF_find (by omega) (by omega) h2 hmin, ?_, by omega, fun j hj => ?_⟩
  · rw [era_tk, cat_st, ← hg, tk_st hfg h1]
  · rw [cat_tk, era_get (by rw [List.length_eraseIdx_of_lt (by omega), hl]; omega), if_pos (by omega)]
    exact hb j hj
theorem merM {b : bbT} {u : Nat} (hc : 3 ≤ cntU b u) : ∃ f g g', f < b.1.length + b.2.length ∧ pFst b u 0 = some f ∧ g < b.1.length + b.2.length ∧ pFst b u (f + 1) = some g ∧ g' < (tkB b g).1.length + (tkB b g).2.length ∧ pFst (tkB b g) u (f + 1) = some g' ∧ f < (tkB (tkB b g) g').1.length + (tkB (tkB b g) g').2.length ∧ f < g' ∧ stB (tkB (tkB b g) g') f (u + 1) = merU b u := by
  have hm := cnt_mem (b := b) (u := u) (by omega)
  obtain ⟨h1, h2⟩ := idx_lt hm
  have hl : (b.1 ++ b.2).length = b.1.length + b.2.length := List.length_append
  obtain ⟨f, hf⟩ : ∃ f, f = (b.1 ++ b.2).idxOf u := ⟨_, rfl⟩
  rw [← hf] at h1 h2
  have hmin : ∀ j, j < f → (b.1 ++ b.2).getD j 0 ≠ u := fun j hj => (idx_min (hf ▸ hj)).elim id (fun z => absurd z (by omega))
  have hr : repU b u = stB b f (u + 1) := by rw [rep_st, ← hf]
  obtain ⟨c1, -, -⟩ := cnt_rep (b := b) (u := u) (by omega)
  rw [hr] at c1
  obtain ⟨g, a1, a2, a3, a4, a5, a6⟩ := mstep (u := u) (by omega) hmin (by omega)
  have c2 := (cnt_era (b := stB b f (u + 1)) (u := u) (by omega)).1
  rw [a4] at c2
  obtain ⟨g', b1, b2, b3, b4, b5, b6⟩ := mstep (u := u) a5 a6 (by omega)
  refine ⟨f, g, g', by omega, pF_find (by omega) (by omega) h2 (fun j _ hj => hmin j hj), a2, a3, b2, b3, b5, b1, ?_⟩
  unfold merU
  rw [hr, a4, b4]
theorem fst_skip {b : bbT} : ∀ {k : Nat}, k ≤ 18 → (∀ j, j < k → ¬ 3 ≤ cntU b (uJ j)) → fstU b = fstJ b (18 - k) k
  | 0, _, _ => rfl
  | k + 1, hk, h => by
    rw [fst_skip (k := k) (by omega) (fun j hj => h j (by omega)), show 18 - k = (18 - (k + 1)) + 1 by omega]
    simp only [fstJ]
    rw [if_neg (h k (by omega))]
theorem getD_cat {l r : List Nat} {k : Nat} : (l ++ r).getD k 0 = if k < l.length then l.getD k 0 else r.getD (k - l.length) 0 := by
  simp only [List.getD_eq_getElem?_getD, List.getElem?_append]
  split <;> rfl
def mbF (s s' : sgT) (m p : Nat) : Prop := mPF s s' m p ∧ ∀ c, c ≠ m + 9 → c ≠ m + 10 → c ≠ m + 11 → c ≠ m + 12 → s' c = s c
theorem mbF.refl {s : sgT} {m p : Nat} : mbF s s m p := ⟨mPF.refl, fun _ _ _ _ _ => rfl⟩
theorem mbF.trans {s s' s2 : sgT} {m p : Nat} (h : mbF s s' m p) (g : mbF s' s2 m p) : mbF s s2 m p := ⟨h.1.trans g.1, fun c a1 a2 a3 a4 => (g.2 c a1 a2 a3 a4).trans (h.2 c a1 a2 a3 a4)⟩
theorem mrow_set {s : sgT} {a b p n i v : Nat} {l : List Nat} (h : mrow s a b p n l) (hab : a ≠ b) (hi : i < l.length) : mrow (sw s b (n * p + i) (nI v)) a b p n (l.set i v) := by
  refine ⟨by rw [sw_a hab, List.length_set]; exact h.1, fun j hj => ?_⟩
  rw [List.length_set] at hj
  rw [set_get hi]
  by_cases e : j = i
  · subst e
    rw [sw_s, if_pos rfl]
  · rw [sw_i (by omega), if_neg e]
    exact h.2 j hj
theorem tk_le {b : bbT} {k : Nat} (h1 : b.1.length ≤ 5) (h2 : b.2.length ≤ 6) : (tkB b k).1.length ≤ 5 ∧ (tkB b k).2.length ≤ 6 := by
  unfold tkB
  split
  · exact ⟨Nat.le_trans (List.length_eraseIdx_le _ _) h1, h2⟩
  · exact ⟨h1, Nat.le_trans (List.length_eraseIdx_le _ _) h2⟩
theorem tk_ok {b : bbT} {k : Nat} (h1 : okR b.1) (h2 : okR b.2) : okR (tkB b k).1 ∧ okR (tkB b k).2 := by
  unfold tkB
  split
  · exact ⟨okR_era h1, h2⟩
  · exact ⟨h1, okR_era h2⟩
set_option maxRecDepth 100000 in
set_option maxHeartbeats 4000000 in
theorem c_X7_placeOf {G : gG} {V : wV} {lo : Nat → Int64} {m : Nat} (hm : modAt V m) {s : sgT} {p : Nat} {b : bbT} (hb : mbb s m p b) (hp : p < 4) (h1 : b.1.length ≤ 5) (h2 : b.2.length ≤ 6) (h3 : okR b.1) (h4 : okR b.2) {u k : Nat} (hu : u < 2 ^ 31) (hk : k ≤ b.1.length + b.2.length) : CSp G V mX7_placeOf cX7_placeOf (rmD 1 0 0) [.ref (ad V m), .int (nI p), .int (nI u), .int (nI k)] s lo (fun v => v = shI (pFst b u k)) (fun _ => False) := by
  refine CSp.of (L := [some (.ref (ad V m)), some (.int (nI p)), some (.int (nI u)), some (.int (nI k)), none, none]) rfl (by decide +kernel) rfl (Nat.le_of_ble_eq_true rfl) rfl ?_
  refine rIload_n dX7_placeOf_0 rfl ?_
  refine rIstore dX7_placeOf_1 (by decide) ?_
  refine loopW (σ := Unit) ((b.1.length + b.2.length)) (fun i _ => [some (.ref (ad V m)), some (.int (nI p)), some (.int (nI u)), some (.int (nI k)), some (.int (nI i)), none]) (fun i _ => s) (fun i _ => pF (b.1 ++ b.2) u (b.1.length + b.2.length - i) i = pFst b u k) (k) () (by omega) rfl (fun i _ hi hinv ih => ?_)
  refine rIload dX7_placeOf_3 rfl ?_
  refine rAload_n dX7_placeOf_5 rfl ?_
  refine sGetR dX7_placeOf_6 fl_X7_41 hm.1 (by decide) rfl ?_
  refine rIload_n dX7_placeOf_9 rfl ?_
  refine nIald (v := (nI (b.1.length))) dX7_placeOf_10 hm.2.2.2.2.2.2.2.2.2.2.2.1 (by omega) (by omega) (by rw [hb.1.1]) ?_
  refine rAload_n dX7_placeOf_11 rfl ?_
  refine sGetR dX7_placeOf_12 fl_X7_35 hm.1 (by decide) rfl ?_
  refine rIload_n dX7_placeOf_15 rfl ?_
  refine nIald (v := (nI (b.2.length))) dX7_placeOf_16 hm.2.2.2.2.2.2.2.2.2.1 (by omega) (by omega) (by rw [hb.2.1]) ?_
  refine nIadd dX7_placeOf_17 ?_
  refine r_icmp_ge (tgt := 82) dX7_placeOf_18 (by decide) (fun c_18 => ?_) (fun c_18 => ?_)
  · have c_18 : ((b.1.length) + (b.2.length)) ≤ i := (nI_leI (by omega) (by omega)).mp c_18
    have e : i = b.1.length + b.2.length := by omega
    subst e
    rw [Nat.sub_self] at hinv
    rw [← hinv]
    refine rIconst (v := (-1)) dX7_placeOf_82 (by decide) ?_
    exact sIret dX7_placeOf_83 rfl rfl (Nat.le_of_ble_eq_true rfl) (Nat.le_of_ble_eq_true rfl) ⟨_, rfl, rfl, rfl⟩
  · have c_18 : ¬ (((b.1.length) + (b.2.length)) ≤ i) := fun h => c_18 ((nI_leI (by omega) (by omega)).mpr h)
    rw [show b.1.length + b.2.length - i = (b.1.length + b.2.length - (i + 1)) + 1 by omega] at hinv
    simp only [pF] at hinv
    refine rIload dX7_placeOf_21 rfl ?_
    refine rAload_n dX7_placeOf_23 rfl ?_
    refine sGetR dX7_placeOf_24 fl_X7_41 hm.1 (by decide) rfl ?_
    refine rIload_n dX7_placeOf_27 rfl ?_
    refine nIald (v := (nI (b.1.length))) dX7_placeOf_28 hm.2.2.2.2.2.2.2.2.2.2.2.1 (by omega) (by omega) (by rw [hb.1.1]) ?_
    refine r_icmp_ge (tgt := 46) dX7_placeOf_29 (by decide) (fun c_29 => ?_) (fun c_29 => ?_)
    · have c_29 : (b.1.length) ≤ i := (nI_leI (by omega) (by omega)).mp c_29
      have hz := hb.2.2 (i - b.1.length) (by omega)
      rw [show 6 * p + (i - b.1.length) = 6 * p + i - b.1.length by omega] at hz
      have hx := okU_lt (h4 (i - b.1.length) (by omega))
      refine rAload_n dX7_placeOf_46 rfl ?_
      refine sGetR dX7_placeOf_47 fl_X7_38 hm.1 (by decide) rfl ?_
      refine rBipush (v := (nI (6))) dX7_placeOf_50 (by decide) ?_
      refine rIload_n dX7_placeOf_52 rfl ?_
      refine nImul dX7_placeOf_53 ?_
      refine rIload dX7_placeOf_54 rfl ?_
      refine nIadd dX7_placeOf_56 ?_
      refine rAload_n dX7_placeOf_57 rfl ?_
      refine sGetR dX7_placeOf_58 fl_X7_41 hm.1 (by decide) rfl ?_
      refine rIload_n dX7_placeOf_61 rfl ?_
      refine nIald (v := (nI (b.1.length))) dX7_placeOf_62 hm.2.2.2.2.2.2.2.2.2.2.2.1 (by omega) (by omega) (by rw [hb.1.1]) ?_
      refine nIsub dX7_placeOf_63 (by omega) ?_
      refine nIald (v := (nI (b.2.getD (i - b.1.length) 0))) dX7_placeOf_64 hm.2.2.2.2.2.2.2.2.2.2.1 (by omega) (by omega) (by rw [hz]) ?_
      refine rIstore dX7_placeOf_65 (by decide) ?_
      refine rIload dX7_placeOf_67 rfl ?_
      refine rIload_n dX7_placeOf_69 rfl ?_
      refine r_icmp_ne (tgt := 76) dX7_placeOf_70 (by decide) (fun c_70 => ?_) (fun c_70 => ?_)
      · have c_70 : ¬ ((b.2.getD (i - b.1.length) 0) = u) := fun h => c_70 ((nI_eq (by omega) (by omega)).mpr h)
        rw [if_neg (by rw [getD_cat, if_neg (by omega)]; exact c_70)] at hinv
        refine rIinc (v := (nI (i + 1))) dX7_placeOf_76 rfl (by first | exact nI_add _ _ | rfl) (by decide) ?_
        refine rGoto (tgt := 3) dX7_placeOf_79 (by decide) ?_
        refine rForget (L := [some (.ref (ad V m)), some (.int (nI p)), some (.int (nI u)), some (.int (nI k)), some (.int (nI (i + 1))), some (.int (nI (b.2.getD (i - b.1.length) 0)))]) (L' := [some (.ref (ad V m)), some (.int (nI p)), some (.int (nI u)), some (.int (nI k)), some (.int (nI (i + 1))), none]) (by exact ⟨rfl, ⟨rfl, ⟨rfl, ⟨rfl, ⟨rfl, trivial⟩⟩⟩⟩⟩) ?_
        exact ih (by omega) () hinv
      · have c_70 : (b.2.getD (i - b.1.length) 0) = u := (nI_eq (by omega) (by omega)).mp c_70
        rw [if_pos (by rw [getD_cat, if_neg (by omega)]; exact c_70)] at hinv
        rw [← hinv]
        refine rIload dX7_placeOf_73 rfl ?_
        exact sIret dX7_placeOf_75 rfl rfl (Nat.le_of_ble_eq_true rfl) (Nat.le_of_ble_eq_true rfl) ⟨_, rfl, rfl, rfl⟩
    · have c_29 : ¬ ((b.1.length) ≤ i) := fun h => c_29 ((nI_leI (by omega) (by omega)).mpr h)
      have hx := okU_lt (h3 i (by omega))
      refine rAload_n dX7_placeOf_32 rfl ?_
      refine sGetR dX7_placeOf_33 fl_X7_44 hm.1 (by decide) rfl ?_
      refine rIconst (v := (nI (5))) dX7_placeOf_36 (by decide) ?_
      refine rIload_n dX7_placeOf_37 rfl ?_
      refine nImul dX7_placeOf_38 ?_
      refine rIload dX7_placeOf_39 rfl ?_
      refine nIadd dX7_placeOf_41 ?_
      refine nIald (v := (nI (b.1.getD i 0))) dX7_placeOf_42 hm.2.2.2.2.2.2.2.2.2.2.2.2.1 (by omega) (by omega) (by rw [hb.1.2 i (by omega)]) ?_
      refine rGoto (tgt := 65) dX7_placeOf_43 (by decide) ?_
      refine rIstore dX7_placeOf_65 (by decide) ?_
      refine rIload dX7_placeOf_67 rfl ?_
      refine rIload_n dX7_placeOf_69 rfl ?_
      refine r_icmp_ne (tgt := 76) dX7_placeOf_70 (by decide) (fun c_70 => ?_) (fun c_70 => ?_)
      · have c_70 : ¬ ((b.1.getD i 0) = u) := fun h => c_70 ((nI_eq (by omega) (by omega)).mpr h)
        rw [if_neg (by rw [getD_cat, if_pos (by omega)]; exact c_70)] at hinv
        refine rIinc (v := (nI (i + 1))) dX7_placeOf_76 rfl (by first | exact nI_add _ _ | rfl) (by decide) ?_
        refine rGoto (tgt := 3) dX7_placeOf_79 (by decide) ?_
        refine rForget (L := [some (.ref (ad V m)), some (.int (nI p)), some (.int (nI u)), some (.int (nI k)), some (.int (nI (i + 1))), some (.int (nI (b.1.getD i 0)))]) (L' := [some (.ref (ad V m)), some (.int (nI p)), some (.int (nI u)), some (.int (nI k)), some (.int (nI (i + 1))), none]) (by exact ⟨rfl, ⟨rfl, ⟨rfl, ⟨rfl, ⟨rfl, trivial⟩⟩⟩⟩⟩) ?_
        exact ih (by omega) () hinv
      · have c_70 : (b.1.getD i 0) = u := (nI_eq (by omega) (by omega)).mp c_70
        rw [if_pos (by rw [getD_cat, if_pos (by omega)]; exact c_70)] at hinv
        rw [← hinv]
        refine rIload dX7_placeOf_73 rfl ?_
        exact sIret dX7_placeOf_75 rfl rfl (Nat.le_of_ble_eq_true rfl) (Nat.le_of_ble_eq_true rfl) ⟨_, rfl, rfl, rfl⟩
set_option maxRecDepth 100000 in
set_option maxHeartbeats 4000000 in
theorem c_X7_takes {G : gG} {V : wV} {lo : Nat → Int64} {m : Nat} (hm : modAt V m) {s : sgT} {p : Nat} {b : bbT} (hb : mbb s m p b) (hp : p < 4) (h1 : b.1.length ≤ 5) (h2 : b.2.length ≤ 6) {k : Nat} (hk : k < b.1.length + b.2.length) : CSv G V mX7_takes cX7_takes (rmD 2 0 0) [.ref (ad V m), .int (nI p), .int (nI k)] s lo (fun s' => mbb s' m p (tkB b k) ∧ mbF s s' m p) (fun _ => False) := by
  refine CSv.of (L := [some (.ref (ad V m)), some (.int (nI p)), some (.int (nI k))]) rfl (by decide +kernel) rfl (Nat.le_of_ble_eq_true rfl) rfl ?_
  refine rIload_n dX7_takes_0 rfl ?_
  refine rAload_n dX7_takes_1 rfl ?_
  refine sGetR dX7_takes_2 fl_X7_41 hm.1 (by decide) rfl ?_
  refine rIload_n dX7_takes_5 rfl ?_
  refine nIald (v := (nI (b.1.length))) dX7_takes_6 hm.2.2.2.2.2.2.2.2.2.2.2.1 (by omega) (by omega) (by rw [hb.1.1]) ?_
  refine r_icmp_ge (tgt := 19) dX7_takes_7 (by decide) (fun c_7 => ?_) (fun c_7 => ?_)
  · have c_7 : (b.1.length) ≤ k := (nI_leI (by omega) (by omega)).mp c_7
    refine rAload_n dX7_takes_19 rfl ?_
    refine rIload_n dX7_takes_20 rfl ?_
    refine rIload_n dX7_takes_21 rfl ?_
    refine rAload_n dX7_takes_22 rfl ?_
    refine sGetR dX7_takes_23 fl_X7_41 hm.1 (by decide) rfl ?_
    refine rIload_n dX7_takes_26 rfl ?_
    refine nIald (v := (nI (b.1.length))) dX7_takes_27 hm.2.2.2.2.2.2.2.2.2.2.2.1 (by omega) (by omega) (by rw [hb.1.1]) ?_
    refine nIsub dX7_takes_28 (by omega) ?_
    refine sCallVv (M' := mX7_takesOffBench) (rm' := rmD 1 0 0) (As := [.int (nI p), .int (nI (k - (b.1.length)))]) (rest := []) dX7_takes_29 rfl mk_X7_takesOffBench mi_X7_takesOffBench ll_X7_96 ⟨(Nat.le_of_ble_eq_true rfl), (Nat.le_of_ble_eq_true rfl)⟩ hm.1 (by decide) rfl rfl (Nat.le_of_ble_eq_true rfl) (Nat.le_of_ble_eq_true rfl) (c_X7_takesOffBench hm hb.2 h2 hp (by omega)) rfl (Nat.le_of_ble_eq_true rfl) (fun s1 e => ?_)
    obtain ⟨e1, e2⟩ := e
    have ht : tkB b k = (b.1, b.2.eraseIdx (k - b.1.length)) := if_neg (by omega)
    rw [ht]
    exact sVret dX7_takes_32 rfl (Nat.le_of_ble_eq_true rfl) (Nat.le_of_ble_eq_true rfl) ⟨rfl, ⟨⟨mrow_keep hb.1 (by rw [e2.1 _ (by omega) (by omega)]) (fun i _ => by rw [e2.1 _ (by omega) (by omega)]), e1⟩, e2.m6, fun c a1 a2 a3 a4 => e2.1 c a1 a2⟩⟩
  · have c_7 : ¬ ((b.1.length) ≤ k) := fun h => c_7 ((nI_leI (by omega) (by omega)).mpr h)
    refine rAload_n dX7_takes_10 rfl ?_
    refine rIload_n dX7_takes_11 rfl ?_
    refine rIload_n dX7_takes_12 rfl ?_
    refine sCallVv (M' := mX7_takesOffBoard) (rm' := rmD 1 0 0) (As := [.int (nI p), .int (nI k)]) (rest := []) dX7_takes_13 rfl mk_X7_takesOffBoard mi_X7_takesOffBoard ll_X7_93 ⟨(Nat.le_of_ble_eq_true rfl), (Nat.le_of_ble_eq_true rfl)⟩ hm.1 (by decide) rfl rfl (Nat.le_of_ble_eq_true rfl) (Nat.le_of_ble_eq_true rfl) (c_X7_takesOffBoard hm hb.1 h1 hp (by omega)) rfl (Nat.le_of_ble_eq_true rfl) (fun s1 e => ?_)
    obtain ⟨e1, e2⟩ := e
    have ht : tkB b k = (b.1.eraseIdx k, b.2) := if_pos (by omega)
    rw [ht]
    refine rGoto (tgt := 32) dX7_takes_16 (by decide) ?_
    exact sVret dX7_takes_32 rfl (Nat.le_of_ble_eq_true rfl) (Nat.le_of_ble_eq_true rfl) ⟨rfl, ⟨⟨e1, mrow_keep hb.2 (by rw [e2.1 _ (by omega) (by omega)]) (fun i _ => by rw [e2.1 _ (by omega) (by omega)])⟩, e2.m5, fun c a1 a2 a3 a4 => e2.1 c a3 a4⟩⟩
set_option maxRecDepth 100000 in
set_option maxHeartbeats 4000000 in
theorem c_X7_merge {G : gG} {V : wV} {lo : Nat → Int64} {m : Nat} (hm : modAt V m) {s : sgT} {p : Nat} {b : bbT} (hb : mbb s m p b) (hp : p < 4) (h1 : b.1.length ≤ 5) (h2 : b.2.length ≤ 6) (h3 : okR b.1) (h4 : okR b.2) {u : Nat} (hu : u < 90) (hc : 3 ≤ cntU b u) : CSv G V mX7_merge cX7_merge (rmD 3 0 0) [.ref (ad V m), .int (nI p), .int (nI u)] s lo (fun s' => mbb s' m p (merU b u) ∧ mbF s s' m p) (fun _ => False) := by
  refine CSv.of (L := [some (.ref (ad V m)), some (.int (nI p)), some (.int (nI u)), none]) rfl (by decide +kernel) rfl (Nat.le_of_ble_eq_true rfl) rfl ?_
  obtain ⟨f, g, g', k1, k2, k3, k4, k5, k6, k7, k9, k8⟩ := merM hc
  rw [← k8]
  obtain ⟨a1, a2⟩ := tk_le (k := g) h1 h2
  obtain ⟨a3, a4⟩ := tk_ok (k := g) h3 h4
  obtain ⟨b1, b2⟩ := tk_le (k := g') a1 a2
  refine rAload_n dX7_merge_0 rfl ?_
  refine rIload_n dX7_merge_1 rfl ?_
  refine rIload_n dX7_merge_2 rfl ?_
  refine rIconst (v := (nI (0))) dX7_merge_3 (by decide) ?_
  refine sCallVp (M' := mX7_placeOf) (rm' := rmD 1 0 0) (As := [.int (nI p), .int (nI u), .int (nI 0)]) (rest := []) dX7_merge_4 rfl mk_X7_placeOf mi_X7_placeOf ll_X7_99 ⟨(Nat.le_of_ble_eq_true rfl), (Nat.le_of_ble_eq_true rfl)⟩ hm.1 (by decide) rfl rfl (Nat.le_of_ble_eq_true rfl) (Nat.le_of_ble_eq_true rfl) (c_X7_placeOf hm hb hp h1 h2 h3 h4 (by omega) (Nat.zero_le _)) rfl (Nat.le_of_ble_eq_true rfl) (fun v0 e0 => ?_)
  refine tTop (w := (nI (f))) (e0.trans (congrArg shI k2)) ?_
  refine rIstore_n dX7_merge_7 (by decide) ?_
  refine rAload_n dX7_merge_8 rfl ?_
  refine rIload_n dX7_merge_9 rfl ?_
  refine rAload_n dX7_merge_10 rfl ?_
  refine rIload_n dX7_merge_11 rfl ?_
  refine rIload_n dX7_merge_12 rfl ?_
  refine rIload_n dX7_merge_13 rfl ?_
  refine rIconst (v := (nI (1))) dX7_merge_14 (by decide) ?_
  refine nIadd dX7_merge_15 ?_
  refine sCallVp (M' := mX7_placeOf) (rm' := rmD 1 0 0) (As := [.int (nI p), .int (nI u), .int (nI (f + 1))]) (rest := [.int (nI p), .ref (ad V m)]) dX7_merge_16 rfl mk_X7_placeOf mi_X7_placeOf ll_X7_99 ⟨(Nat.le_of_ble_eq_true rfl), (Nat.le_of_ble_eq_true rfl)⟩ hm.1 (by decide) rfl rfl (Nat.le_of_ble_eq_true rfl) (Nat.le_of_ble_eq_true rfl) (c_X7_placeOf hm hb hp h1 h2 h3 h4 (by omega) (by omega)) rfl (Nat.le_of_ble_eq_true rfl) (fun v1 e1 => ?_)
  refine tTop (w := (nI (g))) (e1.trans (congrArg shI k4)) ?_
  refine sCallVv (M' := mX7_takes) (rm' := rmD 2 0 0) (As := [.int (nI p), .int (nI g)]) (rest := []) dX7_merge_19 rfl mk_X7_takes mi_X7_takes ll_X7_103 ⟨(Nat.le_of_ble_eq_true rfl), (Nat.le_of_ble_eq_true rfl)⟩ hm.1 (by decide) rfl rfl (Nat.le_of_ble_eq_true rfl) (Nat.le_of_ble_eq_true rfl) (c_X7_takes hm hb hp h1 h2 k3) rfl (Nat.le_of_ble_eq_true rfl) (fun s1 e => ?_)
  obtain ⟨i1, i2⟩ := e
  refine rAload_n dX7_merge_22 rfl ?_
  refine rIload_n dX7_merge_23 rfl ?_
  refine rAload_n dX7_merge_24 rfl ?_
  refine rIload_n dX7_merge_25 rfl ?_
  refine rIload_n dX7_merge_26 rfl ?_
  refine rIload_n dX7_merge_27 rfl ?_
  refine rIconst (v := (nI (1))) dX7_merge_28 (by decide) ?_
  refine nIadd dX7_merge_29 ?_
  refine sCallVp (M' := mX7_placeOf) (rm' := rmD 1 0 0) (As := [.int (nI p), .int (nI u), .int (nI (f + 1))]) (rest := [.int (nI p), .ref (ad V m)]) dX7_merge_30 rfl mk_X7_placeOf mi_X7_placeOf ll_X7_99 ⟨(Nat.le_of_ble_eq_true rfl), (Nat.le_of_ble_eq_true rfl)⟩ hm.1 (by decide) rfl rfl (Nat.le_of_ble_eq_true rfl) (Nat.le_of_ble_eq_true rfl) (c_X7_placeOf hm i1 hp a1 a2 a3 a4 (by omega) (by omega)) rfl (Nat.le_of_ble_eq_true rfl) (fun v2 e2 => ?_)
  refine tTop (w := (nI (g'))) (e2.trans (congrArg shI k6)) ?_
  refine sCallVv (M' := mX7_takes) (rm' := rmD 2 0 0) (As := [.int (nI p), .int (nI (g'))]) (rest := []) dX7_merge_33 rfl mk_X7_takes mi_X7_takes ll_X7_103 ⟨(Nat.le_of_ble_eq_true rfl), (Nat.le_of_ble_eq_true rfl)⟩ hm.1 (by decide) rfl rfl (Nat.le_of_ble_eq_true rfl) (Nat.le_of_ble_eq_true rfl) (c_X7_takes hm i1 hp a1 a2 k5) rfl (Nat.le_of_ble_eq_true rfl) (fun s2 e => ?_)
  obtain ⟨j1, j2⟩ := e
  obtain ⟨c, hcc⟩ : ∃ c, c = tkB (tkB b g) g' := ⟨_, rfl⟩
  rw [← hcc] at j1 k7 b1 b2
  rw [← hcc]
  refine rIload_n dX7_merge_36 rfl ?_
  refine rAload_n dX7_merge_37 rfl ?_
  refine sGetR dX7_merge_38 fl_X7_41 hm.1 (by decide) rfl ?_
  refine rIload_n dX7_merge_41 rfl ?_
  refine nIald (v := (nI (c.1.length))) dX7_merge_42 hm.2.2.2.2.2.2.2.2.2.2.2.1 (by omega) (by omega) (by rw [j1.1.1]) ?_
  refine r_icmp_ge (tgt := 62) dX7_merge_43 (by decide) (fun c_43 => ?_) (fun c_43 => ?_)
  · have c_43 : (c.1.length) ≤ f := (nI_leI (by omega) (by omega)).mp c_43
    refine rAload_n dX7_merge_62 rfl ?_
    refine sGetR dX7_merge_63 fl_X7_38 hm.1 (by decide) rfl ?_
    refine rBipush (v := (nI (6))) dX7_merge_66 (by decide) ?_
    refine rIload_n dX7_merge_68 rfl ?_
    refine nImul dX7_merge_69 ?_
    refine rIload_n dX7_merge_70 rfl ?_
    refine nIadd dX7_merge_71 ?_
    refine rAload_n dX7_merge_72 rfl ?_
    refine sGetR dX7_merge_73 fl_X7_41 hm.1 (by decide) rfl ?_
    refine rIload_n dX7_merge_76 rfl ?_
    refine nIald (v := (nI (c.1.length))) dX7_merge_77 hm.2.2.2.2.2.2.2.2.2.2.2.1 (by omega) (by omega) (by rw [j1.1.1]) ?_
    refine nIsub dX7_merge_78 (by omega) ?_
    refine rIload_n dX7_merge_79 rfl ?_
    refine rIconst (v := (nI (1))) dX7_merge_80 (by decide) ?_
    refine nIadd dX7_merge_81 ?_
    refine nIast dX7_merge_82 hm.2.2.2.2.2.2.2.2.2.2.1 (by omega) (by omega) ?_
    have ht : stB c f (u + 1) = (c.1, c.2.set (f - c.1.length) (u + 1)) := if_neg (by omega)
    rw [ht, show 6 * p + f - c.1.length = 6 * p + (f - c.1.length) by omega]
    exact sVret dX7_merge_83 rfl (Nat.le_of_ble_eq_true rfl) (Nat.le_of_ble_eq_true rfl) ⟨rfl, ⟨⟨mrow_keep j1.1 (by rw [sw_a (by omega)]) (fun i _ => by rw [sw_a (by omega)]), mrow_set j1.2 (by omega) (by omega)⟩, (i2.trans j2).trans ⟨mPF_10 (by omega) (by omega), fun c a1 a2 a3 a4 => sw_a (by omega)⟩⟩⟩
  · have c_43 : ¬ ((c.1.length) ≤ f) := fun h => c_43 ((nI_leI (by omega) (by omega)).mpr h)
    refine rAload_n dX7_merge_46 rfl ?_
    refine sGetR dX7_merge_47 fl_X7_44 hm.1 (by decide) rfl ?_
    refine rIconst (v := (nI (5))) dX7_merge_50 (by decide) ?_
    refine rIload_n dX7_merge_51 rfl ?_
    refine nImul dX7_merge_52 ?_
    refine rIload_n dX7_merge_53 rfl ?_
    refine nIadd dX7_merge_54 ?_
    refine rIload_n dX7_merge_55 rfl ?_
    refine rIconst (v := (nI (1))) dX7_merge_56 (by decide) ?_
    refine nIadd dX7_merge_57 ?_
    refine nIast dX7_merge_58 hm.2.2.2.2.2.2.2.2.2.2.2.2.1 (by omega) (by omega) ?_
    refine rGoto (tgt := 83) dX7_merge_59 (by decide) ?_
    have ht : stB c f (u + 1) = (c.1.set f (u + 1), c.2) := if_pos (by omega)
    rw [ht]
    exact sVret dX7_merge_83 rfl (Nat.le_of_ble_eq_true rfl) (Nat.le_of_ble_eq_true rfl) ⟨rfl, ⟨⟨mrow_set j1.1 (by omega) (by omega), mrow_keep j1.2 (by rw [sw_a (by omega)]) (fun i _ => by rw [sw_a (by omega)])⟩, (i2.trans j2).trans ⟨mPF_12 (by omega) (by omega), fun c a1 a2 a3 a4 => sw_a (by omega)⟩⟩⟩
set_option maxRecDepth 100000 in
set_option maxHeartbeats 4000000 in
theorem c_X7_merges {G : gG} {V : wV} {lo : Nat → Int64} {m : Nat} (hm : modAt V m) {s : sgT} {p : Nat} {b : bbT} (hb : mbb s m p b) (hp : p < 4) (h1 : b.1.length ≤ 5) (h2 : b.2.length ≤ 6) (h3 : okR b.1) (h4 : okR b.2) : CSv G V mX7_merges cX7_merges (rmD 4 0 0) [.ref (ad V m), .int (nI p)] s lo (fun s' => mbb s' m p (merI 11 b) ∧ mbF s s' m p) (fun _ => False) := by
  refine CSv.of (L := [some (.ref (ad V m)), some (.int (nI p)), none, none, none]) rfl (by decide +kernel) rfl (Nat.le_of_ble_eq_true rfl) rfl ?_
  refine rIconst (v := (nI (0))) dX7_merges_0 (by decide) ?_
  refine rIstore_n dX7_merges_1 (by decide) ?_
  refine loopM (σ := sgT × bbT × Nat) (fun x => (x.2.1.1.length + x.2.1.2.length) * 20 + (18 - x.2.2)) (fun x => [some (.ref (ad V m)), some (.int (nI p)), some (.int (nI (x.2.2))), none, none]) (fun x => x.1) (fun x => mbb x.1 m p x.2.1 ∧ mbF s x.1 m p ∧ bbOk x.2.1 ∧ x.2.2 ≤ 18 ∧ (∀ j, j < x.2.2 → ¬ 3 ≤ cntU x.2.1 (uJ j)) ∧ ∃ n, x.2.1.1.length + x.2.1.2.length ≤ 2 * n + 1 ∧ merI n x.2.1 = merI 11 b) (s, b, 0) ⟨hb, mbF.refl, ⟨h3, h4, h1, h2⟩, Nat.zero_le _, fun j hj => absurd hj (Nat.not_lt_zero _), 11, (show b.1.length + b.2.length ≤ 2 * 11 + 1 by omega), rfl⟩ (fun x hinv ih => ?_)
  obtain ⟨y, c, k⟩ := x
  obtain ⟨v1, v2, v3, v4, v5, n, v6, v7⟩ := hinv
  dsimp only at v1 v2 v3 v4 v5 v6 v7 ih
  obtain ⟨o3, o4, o1, o2⟩ := id v3
  show RW G mX7_merges cX7_merges _ _ _ [some (.ref (ad V m)), some (.int (nI p)), some (.int (nI k)), none, none] [] (wS G V y lo) _ _
  refine rIload_n dX7_merges_2 rfl ?_
  refine rBipush (v := (nI (18))) dX7_merges_3 (by decide) ?_
  refine r_icmp_ge (tgt := 65) dX7_merges_5 (by decide) (fun c_5 => ?_) (fun c_5 => ?_)
  · have c_5 : 18 ≤ k := (nI_leI (by omega) (by omega)).mp c_5
    have e : k = 18 := by omega
    subst e
    have hn : fstU c = none := fst_skip (Nat.le_refl _) v5
    rw [merI_none hn] at v7
    rw [v7] at v1
    exact sVret dX7_merges_65 rfl (Nat.le_of_ble_eq_true rfl) (Nat.le_of_ble_eq_true rfl) ⟨rfl, ⟨v1, v2⟩⟩
  · have c_5 : ¬ (18 ≤ k) := fun h => c_5 ((nI_leI (by omega) (by omega)).mpr h)
    have hu : 10 * (k / 2) + 1 + k % 2 = uJ k := rfl
    have hu9 := okU_lt (uJ_ok (j := k) (by omega)).1
    refine rBipush (v := (nI (10))) dX7_merges_8 (by decide) ?_
    refine rIload_n dX7_merges_10 rfl ?_
    refine rIconst (v := (nI (2))) dX7_merges_11 (by decide) ?_
    refine nIdiv dX7_merges_12 (by omega) (by decide) (by decide) ?_
    refine nImul dX7_merges_13 ?_
    refine rIconst (v := (nI (1))) dX7_merges_14 (by decide) ?_
    refine nIadd dX7_merges_15 ?_
    refine rIload_n dX7_merges_16 rfl ?_
    refine rIconst (v := (nI (2))) dX7_merges_17 (by decide) ?_
    refine nIrem dX7_merges_18 (by omega) (by decide) (by decide) ?_
    refine nIadd dX7_merges_19 ?_
    refine tTop (w := (nI (uJ k))) rfl ?_
    refine rIstore_n dX7_merges_20 (by decide) ?_
    refine rAload_n dX7_merges_21 rfl ?_
    refine rIload_n dX7_merges_22 rfl ?_
    refine rIload_n dX7_merges_23 rfl ?_
    refine sCallVp (M' := mX7_alike) (rm' := rmD 1 0 0) (As := [.int (nI p), .int (nI (uJ k))]) (rest := []) dX7_merges_24 rfl mk_X7_alike mi_X7_alike ll_X7_106 ⟨(Nat.le_of_ble_eq_true rfl), (Nat.le_of_ble_eq_true rfl)⟩ hm.1 (by decide) rfl rfl (Nat.le_of_ble_eq_true rfl) (Nat.le_of_ble_eq_true rfl) (c_X7_alike hm v1 v3 hp (by omega)) rfl (Nat.le_of_ble_eq_true rfl) (fun va ea => ?_)
    refine tTop (w := (nI (cntU c (uJ k)))) ea ?_
    have hcl : cntU c (uJ k) ≤ c.1.length + c.2.length := Nat.add_le_add List.count_le_length List.count_le_length
    refine rIconst (v := (nI (2))) dX7_merges_27 (by decide) ?_
    refine r_icmp_le (tgt := 35) dX7_merges_28 (by decide) (fun c_28 => ?_) (fun c_28 => ?_)
    · have c_28 : (cntU c (uJ k)) ≤ 2 := (nI_leI (by omega) (by omega)).mp c_28
      refine rIconst (v := (nI (0))) dX7_merges_35 (by decide) ?_
      refine rIstore dX7_merges_36 (by decide) ?_
      refine rIload dX7_merges_38 rfl ?_
      refine r_if_eq (tgt := 49) dX7_merges_40 (by decide) (fun c_40 => ?_) (fun c_40 => ?_)
      · have c_40 : 0 = 0 := (nz_eq (by omega)).mp c_40
        refine rIload dX7_merges_49 rfl ?_
        refine r_if_eq (tgt := 58) dX7_merges_51 (by decide) (fun c_51 => ?_) (fun c_51 => ?_)
        · have c_51 : 0 = 0 := (nz_eq (by omega)).mp c_51
          refine rIload_n dX7_merges_58 rfl ?_
          refine rIconst (v := (nI (1))) dX7_merges_59 (by decide) ?_
          refine nIadd dX7_merges_60 ?_
          refine rIstore_n dX7_merges_61 (by decide) ?_
          refine rGoto (tgt := 2) dX7_merges_62 (by decide) ?_
          refine rForget (L := [some (.ref (ad V m)), some (.int (nI p)), some (.int (nI (k + 1))), some (.int (nI (uJ k))), some (.int (nI 0))]) (L' := [some (.ref (ad V m)), some (.int (nI p)), some (.int (nI (k + 1))), none, none]) (by exact ⟨rfl, ⟨rfl, ⟨rfl, trivial⟩⟩⟩) ?_
          exact ih (y, c, k + 1) (show (c.1.length + c.2.length) * 20 + (18 - (k + 1)) < (c.1.length + c.2.length) * 20 + (18 - k) by omega) ⟨v1, v2, v3, by show k + 1 ≤ 18; omega, fun j hj => (by
                  rcases Nat.lt_or_ge j k with z | z
                  · exact v5 j z
                  · have e : j = k := by have : j < k + 1 := hj; omega
                    subst e
                    show ¬ 3 ≤ cntU c (uJ j)
                    omega), n, v6, v7⟩
        · have c_51 : ¬ (0 = 0) := fun h => c_51 ((nz_eq (by omega)).mpr h)
          exact absurd c_51 (by omega)
      · have c_40 : ¬ (0 = 0) := fun h => c_40 ((nz_eq (by omega)).mpr h)
        exact absurd c_40 (by omega)
    · have c_28 : ¬ ((cntU c (uJ k)) ≤ 2) := fun h => c_28 ((nI_leI (by omega) (by omega)).mpr h)
      have hfst : fstU c = some (uJ k) := (by
            rw [fst_skip v4 v5, show 18 - k = (18 - (k + 1)) + 1 by omega]
            simp only [fstJ]
            rw [if_pos (by omega)])
      obtain ⟨m1, m2, m3, m4, m5⟩ := mer_ok o3 o4 (uJ_succ (by omega)) (show 3 ≤ cntU c (uJ k) by omega)
      refine rIconst (v := (nI (1))) dX7_merges_31 (by decide) ?_
      refine rGoto (tgt := 36) dX7_merges_32 (by decide) ?_
      refine rIstore dX7_merges_36 (by decide) ?_
      refine rIload dX7_merges_38 rfl ?_
      refine r_if_eq (tgt := 49) dX7_merges_40 (by decide) (fun c_40 => ?_) (fun c_40 => ?_)
      · have c_40 : 1 = 0 := (nz_eq (by omega)).mp c_40
        exact absurd c_40 (by omega)
      · have c_40 : ¬ (1 = 0) := fun h => c_40 ((nz_eq (by omega)).mpr h)
        refine rAload_n dX7_merges_43 rfl ?_
        refine rIload_n dX7_merges_44 rfl ?_
        refine rIload_n dX7_merges_45 rfl ?_
        refine sCallVv (M' := mX7_merge) (rm' := rmD 3 0 0) (As := [.int (nI p), .int (nI (uJ k))]) (rest := []) dX7_merges_46 rfl mk_X7_merge mi_X7_merge ll_X7_110 ⟨(Nat.le_of_ble_eq_true rfl), (Nat.le_of_ble_eq_true rfl)⟩ hm.1 (by decide) rfl rfl (Nat.le_of_ble_eq_true rfl) (Nat.le_of_ble_eq_true rfl) (c_X7_merge hm v1 hp o1 o2 o3 o4 hu9 (by omega)) rfl (Nat.le_of_ble_eq_true rfl) (fun s1 e => ?_)
        obtain ⟨e1, e2⟩ := e
        refine rIload dX7_merges_49 rfl ?_
        refine r_if_eq (tgt := 58) dX7_merges_51 (by decide) (fun c_51 => ?_) (fun c_51 => ?_)
        · have c_51 : 1 = 0 := (nz_eq (by omega)).mp c_51
          exact absurd c_51 (by omega)
        · have c_51 : ¬ (1 = 0) := fun h => c_51 ((nz_eq (by omega)).mpr h)
          refine rIconst (v := (nI (0))) dX7_merges_54 (by decide) ?_
          refine rGoto (tgt := 61) dX7_merges_55 (by decide) ?_
          refine rIstore_n dX7_merges_61 (by decide) ?_
          refine rGoto (tgt := 2) dX7_merges_62 (by decide) ?_
          refine rForget (L := [some (.ref (ad V m)), some (.int (nI p)), some (.int (nI 0)), some (.int (nI (uJ k))), some (.int (nI 1))]) (L' := [some (.ref (ad V m)), some (.int (nI p)), some (.int (nI 0)), none, none]) (by exact ⟨rfl, ⟨rfl, ⟨rfl, trivial⟩⟩⟩) ?_
          rw [show n = (n - 1) + 1 by omega, merI_some hfst] at v7
          exact ih (s1, merU c (uJ k), 0) (show ((merU c (uJ k)).1.length + (merU c (uJ k)).2.length) * 20 + (18 - 0) < (c.1.length + c.2.length) * 20 + (18 - k) by omega) ⟨e1, v2.trans e2, ⟨m1, m2, by show (merU c (uJ k)).1.length ≤ 5; omega, by show (merU c (uJ k)).2.length ≤ 6; omega⟩, Nat.zero_le _, fun j hj => absurd hj (Nat.not_lt_zero _), n - 1, by show (merU c (uJ k)).1.length + (merU c (uJ k)).2.length ≤ 2 * (n - 1) + 1; omega, v7⟩
