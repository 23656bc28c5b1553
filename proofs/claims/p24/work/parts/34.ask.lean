/-! what the hall is asked, with nothing thrown; rows for the law's own methods -/
def aPost (o : Nat) (s : sgT) (h : hT) (x v : Int32) (s' : sgT) : Prop := v = x ∧ hallIs s' o h ∧ hFr s s' o
theorem CSi.q {G : gG} {V : wV} {M : mT} {cc : ByteArray} {rm : Room} {vs : List Value} {s : sgT} {lo : Nat → Int64} {o : Nat} {r : rT} {xs : List String} {h : hT} {x : Int32} (hc : CSi G V M cc rm vs s lo (fun v s' => hPost o s r v s') (hExc xs h r)) (e : r = (0, x, h)) : CSi G V M cc rm vs s lo (fun v s' => aPost o s h x v s') (fun _ => False) := by
  subst e
  have e2 : (fun v s' => hPost o s (0, x, h) v s') = (fun v s' => aPost o s h x v s') := funext fun v => funext fun s' => propext ⟨fun q => q.2, fun q => ⟨rfl, q⟩⟩
  rw [e2] at hc
  exact CS.noX hc (fun E q => by
    obtain ⟨-, k, hk, -⟩ := q
    exact absurd hk.symm (Nat.succ_ne_zero k))
theorem ask_at {f : plT → Int32} {h : hT} {p : Nat} (hp : p < 4) : fAsk f h (nI p) = (0, f (hY h p), h) := by
  simp only [fAsk, idx_nI hp (by decide)]
theorem ask2_at {n : plT → Nat} {f : plT → Nat → Int32} {h : hT} {p j : Nat} (hp : p < 4) (hj : j < n (hY h p)) (hb : n (hY h p) < 2 ^ 31) : fAsk2 n f h (nI p) (nI j) = (0, f (hY h p) j, h) := by
  simp only [fAsk2, idx_nI hp (by decide), idx_nI hj hb]
theorem q_rounds {G : gG} {V : wV} {lo : Nat → Int64} {o : Nat} (ho : hallAt V o) {s : sgT} {h : hT} (hh : hallIs s o h) (hfl : (gl G).stackTraces = false) : CSi G V mX6_rounds cX6_rounds (rmD 9 9 54) [.ref (ad V o)] s lo (fun v s' => aPost o s h (nI (hR h)) v s') (fun _ => False) := CSi.q (c_X6_rounds ho hh hfl) rfl
theorem q_gold {G : gG} {V : wV} {lo : Nat → Int64} {o : Nat} (ho : hallAt V o) {s : sgT} {h : hT} (hh : hallIs s o h) (hfl : (gl G).stackTraces = false) {p : Nat} (hp : p < 4) : CSi G V mX6_gold cX6_gold (rmD 9 9 54) [.ref (ad V o), .int (nI p)] s lo (fun v s' => aPost o s h (nI (pGold (hY h p))) v s') (fun _ => False) := CSi.q (c_X6_gold ho hh hfl) (ask_at hp)
theorem q_health {G : gG} {V : wV} {lo : Nat → Int64} {o : Nat} (ho : hallAt V o) {s : sgT} {h : hT} (hh : hallIs s o h) (hfl : (gl G).stackTraces = false) {p : Nat} (hp : p < 4) : CSi G V mX6_health cX6_health (rmD 9 9 54) [.ref (ad V o), .int (nI p)] s lo (fun v s' => aPost o s h (nI (pHth (hY h p))) v s') (fun _ => False) := CSi.q (c_X6_health ho hh hfl) (ask_at hp)
theorem q_streak {G : gG} {V : wV} {lo : Nat → Int64} {o : Nat} (ho : hallAt V o) {s : sgT} {h : hT} (hh : hallIs s o h) (hfl : (gl G).stackTraces = false) {p : Nat} (hp : p < 4) : CSi G V mX6_streak cX6_streak (rmD 9 9 54) [.ref (ad V o), .int (nI p)] s lo (fun v s' => aPost o s h (pStk (hY h p)) v s') (fun _ => False) := CSi.q (c_X6_streak ho hh hfl) (ask_at hp)
theorem q_shopAt {G : gG} {V : wV} {lo : Nat → Int64} {o : Nat} (ho : hallAt V o) {s : sgT} {h : hT} (hh : hallIs s o h) (hfl : (gl G).stackTraces = false) {p j : Nat} (hp : p < 4) (hj : j < 3) : CSi G V mX6_shopAt cX6_shopAt (rmD 9 9 54) [.ref (ad V o), .int (nI p), .int (nI j)] s lo (fun v s' => aPost o s h (shI (pShp (hY h p) j)) v s') (fun _ => False) := CSi.q (c_X6_shopAt ho hh hfl) (ask2_at hp hj (by decide))
theorem q_benchAt {G : gG} {V : wV} {lo : Nat → Int64} {o : Nat} (ho : hallAt V o) {s : sgT} {h : hT} (hh : hallIs s o h) (hg : good h) (hfl : (gl G).stackTraces = false) {p j : Nat} (hp : p < 4) (hj : j < 6) : CSi G V mX6_benchAt cX6_benchAt (rmD 9 9 54) [.ref (ad V o), .int (nI p), .int (nI j)] s lo (fun v s' => aPost o s h (rowU (pBen (hY h p)) j) v s') (fun _ => False) := CSi.q (c_X6_benchAt ho hh hg.1 (by decide) hfl) (ask2_at hp hj (by decide))
theorem q_boardAt {G : gG} {V : wV} {lo : Nat → Int64} {o : Nat} (ho : hallAt V o) {s : sgT} {h : hT} (hh : hallIs s o h) (hg : good h) (hfl : (gl G).stackTraces = false) {p j : Nat} (hp : p < 4) (hj : j < 5) : CSi G V mX6_boardAt cX6_boardAt (rmD 9 9 54) [.ref (ad V o), .int (nI p), .int (nI j)] s lo (fun v s' => aPost o s h (rowU (pBrd (hY h p)) j) v s') (fun _ => False) := CSi.q (c_X6_boardAt ho hh hg.1 (by decide) hfl) (ask2_at hp hj (by decide))
theorem q_blow {G : gG} {V : wV} {lo : Nat → Int64} {o : Nat} (ho : hallAt V o) {s : sgT} {h : hT} (hh : hallIs s o h) (hg : good h) (hfl : (gl G).stackTraces = false) {p j : Nat} (hp : p < 4) (hj : j < (pBrd (hY h p)).length) : CSi G V mX6_blow cX6_blow (rmD 9 9 54) [.ref (ad V o), .int (nI p), .int (nI j)] s lo (fun v s' => aPost o s h (nI (strN (pBrd (hY h p)) ((pBrd (hY h p)).getD j 0))) v s') (fun _ => False) := CSi.q (c_X6_blow ho hh hg.1 (by decide) hfl) (ask2_at hp hj (by have := (plOk_len hg.1 hp).2.1; show (pBrd (hY h p)).length < 2 ^ 31; omega))
theorem q_pool {G : gG} {V : wV} {lo : Nat → Int64} {o : Nat} (ho : hallAt V o) {s : sgT} {h : hT} (hh : hallIs s o h) (hfl : (gl G).stackTraces = false) {k : Nat} (hk : k < 9) : CSi G V mX6_pool cX6_pool (rmD 9 9 54) [.ref (ad V o), .int (nI k)] s lo (fun v s' => aPost o s h (nI (hP h k)) v s') (fun _ => False) := CSi.q (c_X6_pool ho hh hfl) (by simp only [fPool, idx_nI hk (by decide)])
theorem q_out {G : gG} {V : wV} {lo : Nat → Int64} {o : Nat} (ho : hallAt V o) {s : sgT} {h : hT} (hh : hallIs s o h) (hg : good h) (hfl : (gl G).stackTraces = false) {k : Nat} (hk : k < 9) : CSi G V mX6_out cX6_out (rmD 9 9 54) [.ref (ad V o), .int (nI k)] s lo (fun v s' => aPost o s h (nI (outN h k 4)) v s') (fun _ => False) := CSi.q (c_X6_out ho hh hg.1 (by decide) hfl) (by simp only [fOut, idx_nI hk (by decide)])
theorem fight_at {h : hT} {p q : Nat} (hp : p < 4) (hq : q < 4) (hpq : ¬ p = q) : fFight h (nI p) (nI q) = (0, nI (livA (pBrd (hY h p)) (pBrd (hY h q))) - nI (livB (pBrd (hY h p)) (pBrd (hY h q))), h) := by
  simp only [fFight, idx_nI hp (by decide), idx_nI hq (by decide), if_neg hpq]
theorem q_fight {G : gG} {V : wV} {lo : Nat → Int64} {o : Nat} (ho : hallAt V o) {s : sgT} {h : hT} (hh : hallIs s o h) (hg : good h) (hfl : (gl G).stackTraces = false) {p q : Nat} (hp : p < 4) (hq : q < 4) (hpq : ¬ p = q) : CSi G V mX6_fight cX6_fight (rmD 9 9 54) [.ref (ad V o), .int (nI p), .int (nI q)] s lo (fun v s' => aPost o s h (nI (livA (pBrd (hY h p)) (pBrd (hY h q))) - nI (livB (pBrd (hY h p)) (pBrd (hY h q)))) v s') (fun _ => False) := CSi.q (c_X6_fight ho hh hg.1 (by decide) hfl) (fight_at hp hq hpq)
theorem q_fightByRecord {G : gG} {V : wV} {lo : Nat → Int64} {o : Nat} (ho : hallAt V o) {s : sgT} {h : hT} (hh : hallIs s o h) (hg : good h) (hfl : (gl G).stackTraces = false) {p q : Nat} (hp : p < 4) (hq : q < 4) (hpq : ¬ p = q) : CSi G V mX6_fightByRecord cX6_fightByRecord (rmD 9 9 54) [.ref (ad V o), .int (nI p), .int (nI q)] s lo (fun v s' => aPost o s h (nI (livA (pBrd (hY h p)) (pBrd (hY h q))) - nI (livB (pBrd (hY h p)) (pBrd (hY h q)))) v s') (fun _ => False) := CSi.q (c_X6_fightByRecord ho hh hg.1 (by decide) hfl) (fight_at hp hq hpq)
/-- a call of a method of the law that has handlers -/
theorem sCallW {G : gG} {V : wV} {M M' : mT} {cc cc' : ByteArray} {rm rm' : Room} {QF : Array Value → State → List Frame → State → Prop} {pc : Nat} {L : List (Option Value)} {st rest : List Value} {s : sgT} {lo : Nat → Int64} {cells slots idx n : Nat} {As : List Value} {F : Int32 → sgT → Prop} (hd : decode cc pc = .ok (.invokestatic idx, 3)) (hh : mH M' ≠ []) (hk : mOK M' cc' n) (hi : Cond.static (mY M') ∈ gWds) (hlk : Cond.methodLink (mO M) idx (mY M') ∈ gWds) (hrm : rmOk rm rm' (mN M')) (hn : As.length = n) (hcs : cells + rm'.cells ≤ rm.cells) (hsl : slots + rm'.slots ≤ rm.slots)
    (hM : CSi G V M' cc' rm' As s lo F (fun _ => False)) (hst : st = As.reverse ++ rest) (hrest : (rest.map fun v => v.category).sum ≤ 8)
    (kk : ∀ (r : Int32) (s' : sgT), F r s' → RW G M cc rm QF (pc + 3) L (.int r :: rest) (wS G V s' lo) (cells + rm'.cells) (slots + rm'.slots)) : RW G M cc rm QF pc L st (wS G V s lo) cells slots := by
  subst hst
  refine rCall (mc := rm'.cells) (ms := rm'.slots) (rest := rest) (post := fun v w => ∃ s' : sgT, w = wS G V s' lo ∧ ∃ r : Int32, v = some (.int r) ∧ F r s') ?_ (fun v w h => ?_)
  · refine rRunSW hd hh hk hi hlk hrm hn hrest hcs hsl ?_
    have e : (fun (E : String) (w : va_W) => w = wS G V s lo ∧ (fun _ : String => False) E) = fun _ _ => False := by
      funext E w
      simp
    have h9 := hM
    unfold CSi CS at h9
    rw [e] at h9
    exact h9
  · obtain ⟨s', rfl, r, rfl, h⟩ := h
    exact kk r s' h
/-- a loop whose turns make objects: so many at each -/
theorem loopG {G : gG} {V : wV} {M : mT} {cc : ByteArray} {rm : Room} {QF : Array Value → State → List Frame → State → Prop} {pc : Nat} {lo : Nat → Int64} {st : List Value} {σ : Type} (c0 n0 dc dn e : Nat) (Lf : Nat → σ → List (Option Value)) (sf : Nat → σ → sgT) (Inv : Nat → σ → Prop) (x0 : σ) (h0 : Inv 0 x0)
    (body : ∀ (i : Nat) (x : σ), i ≤ e → Inv i x → (i < e → ∀ x' : σ, Inv (i + 1) x' → RW G M cc rm QF pc (Lf (i + 1) x') st (wS G V (sf (i + 1) x') lo) (c0 + dc * (i + 1)) (n0 + dn * (i + 1))) → RW G M cc rm QF pc (Lf i x) st (wS G V (sf i x) lo) (c0 + dc * i) (n0 + dn * i)) : RW G M cc rm QF pc (Lf 0 x0) st (wS G V (sf 0 x0) lo) c0 n0 := by
  have key : ∀ i, i ≤ e → ∀ x : σ, Inv i x → RW G M cc rm QF pc (Lf i x) st (wS G V (sf i x) lo) (c0 + dc * i) (n0 + dn * i) := by
    refine loopUp e (fun i hi ih x hx => ?_)
    exact body i x hi hx (fun hl x' hx' => ih hl x' hx')
  exact key 0 (Nat.zero_le _) x0 h0
/-- two halls: at 0 and at 47 -/
def W2 (s : sgT) (h h' : hT) : Prop := hallIs s 0 h ∧ hallIs s 47 h'
theorem hall_0 {s s' : sgT} {h : hT} (hh : hallIs s 0 h) (hb : hFr s s' 47) : hallIs s' 0 h := hallIs_keep hh (fun b _ _ => hb b (Or.inl (by omega))) (fun b _ _ => hb b (Or.inl (by omega)))
theorem hall_47 {s s' : sgT} {h : hT} (hh : hallIs s 47 h) (hb : hFr s s' 0) : hallIs s' 47 h := hallIs_keep hh (fun b _ _ => hb b (Or.inr (by omega))) (fun b _ _ => hb b (Or.inr (by omega)))
theorem w2_0 {s s' : sgT} {h h' h1 : hT} {x v : Int32} (hw : W2 s h h') (hv : aPost 0 s h1 x v s') : W2 s' h1 h' := ⟨hv.2.1, hall_47 hw.2 hv.2.2⟩
theorem w2_1 {s s' : sgT} {h h' h1 : hT} {x v : Int32} (hw : W2 s h h') (hv : aPost 47 s h1 x v s') : W2 s' h h1 := ⟨hall_0 hw.1 hv.2.2, hv.2.1⟩
/-! the law's numbers -/
def lowN (v : Int32) (n : Nat) : Nat := (v &&& 2147483647).toNatClampNeg % n
theorem lowN_lt {v : Int32} {n : Nat} (h : 0 < n) : lowN v n < n := Nat.mod_lt _ h
theorem low_eq {v : Int32} : ∃ j : Nat, j < 2 ^ 31 ∧ (v &&& 2147483647) = nI j := pk_andE v (m := 2147483647) 31 (by decide)
theorem and3 (v : Int32) : ∃ j : Nat, j < 4 ∧ v &&& nI 3 = nI j := pk_andE v (m := nI 3) 2 (by decide)
def shr (v : Int32) (k : Nat) : Int32 := v >>> (nI k &&& 31)
def aOdd (v : Int32) : Prop := shr v 18 &&& nI 7 = nI 7
noncomputable def aPl (v : Int32) (d : Bool) : Int32 := if d then nI (lowN (shr v 6) 7) - nI 1 else shr v 6 &&& nI 3
noncomputable def aPc (v : Int32) (d : Bool) : Int32 := if d then nI (lowN (shr v 9) 11) - nI 2 else nI (lowN (shr v 9) 3)
noncomputable def aTl (v : Int32) (d : Bool) : Int32 := if d then nI (lowN (shr v 6) 1200) - nI 99 else if shr v 17 &&& nI 1 = 0 then nI (lowN (shr v 6) 1001) else nI (lowN (shr v 6) 9)
def aWh (n : Nat) : Nat := if n < 15 then 1 else if n = 15 then 2 else if n < 19 then 3 else if n < 28 then 4 else if n = 28 then 5 else if n < 34 then 6 else if n < 36 then 7 else 8
noncomputable def fAc (h : hT) (v : Int32) (d : Bool) : rT := if lowN v 40 < 8 then fDo h 0 (aTl v d) (nI 0) else fDo h (aWh (lowN v 40)) (aPl v d) (aPc v d)
noncomputable def fAct (h : hT) (v : Int32) : rT := if shr v 18 &&& nI 7 = nI 7 then fAc h v true else fAc h v false
theorem gd_act {h : hT} {v : Int32} (hg : good h) : good (fAct h v).2.2 := by
  unfold fAct fAc
  repeat' split
  all_goals exact gd_do hg
def smR (h : hT) (r : rT) : Prop := ¬ r.1 = 0 → r.2.2 = h
theorem act_sm {h : hT} {v : Int32} : smR h (fAct h v) := by
  unfold fAct fAc
  repeat' split
  all_goals exact do_same
theorem act_same {h : hT} {v : Int32} (e : ¬ (fAct h v).1 = 0) : (fAct h v).2.2 = h := act_sm e
/-- an answer is never the number of a throw -/
theorem nI_m9 {n : Nat} (h : n < 2 ^ 31) : ¬ nI n = -99999 := by
  intro e
  have h1 : (nI n).toInt = (n : Int) := nI_toInt h
  rw [e] at h1
  have h2 : (-99999 : Int32).toInt = -99999 := by decide
  omega
theorem aliN_le {h : hT} : ∀ i, aliN h i ≤ i
  | 0 => Nat.le_refl _
  | i + 1 => by
    have := aliN_le (h := h) i
    simp only [aliN]
    split <;> omega
def numA (r : rT) : Prop := r.1 = 0 → ∃ n, n < 2 ^ 31 ∧ r.2.1 = nI n
theorem num_no {k : Nat} {x : Int32} {h : hT} : numA (k + 1, x, h) := fun e => absurd e (Nat.succ_ne_zero k)
theorem num_is {n : Nat} {h : hT} (hn : n < 2 ^ 31) : numA (0, nI n, h) := fun _ => ⟨n, hn, rfl⟩
theorem num_tell {h : hT} {x : Int32} (hq : (hQ h).length ≤ 100) : numA (fTell h x) := by
  unfold fTell
  split
  · exact num_no
  · split
    · exact num_no
    · exact num_is (by omega)
theorem num_roll {h : hT} {x : Int32} (hk : hallOk 9 h) : numA (fRoll h x) := by
  unfold fRoll
  split
  · exact num_no
  · rename_i p e
    have := (hk.2.2.1 p (idx_lt4 e)).1
    split
    · exact num_no
    · exact num_is (by omega)
theorem num_toggle {h : hT} {x : Int32} : numA (fToggle h x) := by
  unfold fToggle
  split
  · exact num_no
  · unfold bI
    split
    · exact num_is (by decide)
    · exact num_is (by decide)
theorem num_level {h : hT} {x : Int32} (hk : hallOk 9 h) : numA (fLevel h x) := by
  unfold fLevel
  split
  · exact num_no
  · rename_i p e
    have := (hk.2.2.1 p (idx_lt4 e)).2.2.1
    split
    · exact num_no
    · split
      · exact num_no
      · exact num_is (by omega)
theorem num_buy {h : hT} {x y : Int32} (hk : hallOk 9 h) : numA (fBuy h x y) := by
  unfold fBuy
  split
  · exact num_no
  · rename_i p e
    have := (hk.2.2.1 p (idx_lt4 e)).1
    split
    · exact num_no
    · split
      · exact num_no
      · split
        · exact num_no
        · split
          · exact num_no
          · exact num_is (by omega)
theorem num_sell {h : hT} {x y : Int32} : numA (fSell h x y) := by
  unfold fSell
  split
  · exact num_no
  · split
    · exact num_no
    · exact num_is (by omega)
theorem num_board {h : hT} {x y : Int32} (hk : hallOk 9 h) : numA (fBoard h x y) := by
  unfold fBoard
  split
  · exact num_no
  · rename_i p e
    have := (plOk_len hk (idx_lt4 e)).2.1
    split
    · exact num_no
    · split
      · exact num_no
      · exact num_is (by omega)
theorem num_bench {h : hT} {x y : Int32} (hk : hallOk 9 h) : numA (fBench h x y) := by
  unfold fBench
  split
  · exact num_no
  · rename_i p e
    obtain ⟨l1, l2, -⟩ := plOk_len hk (idx_lt4 e)
    split
    · exact num_no
    · rename_i i ei
      split
      · exact num_no
      · have l3 := era_len (idx_lt4 ei)
        obtain ⟨m, h1, -⟩ := merI_len 11 ((pBrd (hY h p)).eraseIdx i, pBen (hY h p) ++ [(pBrd (hY h p)).getD i 0])
        have h2 : (pBen (hY h p) ++ [(pBrd (hY h p)).getD i 0]).length = (pBen (hY h p)).length + 1 := by rw [List.length_append]; rfl
        have h3 : ((pBrd (hY h p)).eraseIdx i, pBen (hY h p) ++ [(pBrd (hY h p)).getD i 0]).1.length = ((pBrd (hY h p)).eraseIdx i).length := rfl
        have h4 : ((pBrd (hY h p)).eraseIdx i, pBen (hY h p) ++ [(pBrd (hY h p)).getD i 0]).2.length = (pBen (hY h p) ++ [(pBrd (hY h p)).getD i 0]).length := rfl
        exact num_is (by omega)
theorem num_round {h : hT} : numA (fRound h) := by
  unfold fRound
  split
  · exact num_no
  · exact num_is (by have := aliN_le (h := fuH (eaH (rdH h) 4) 4) 4; omega)
theorem num_do {h : hT} {w : Nat} {a b : Int32} (hq : (hQ h).length ≤ 100) (hk : hallOk 9 h) : numA (fDo h w a b) := by
  unfold fDo
  repeat' split
  · exact num_tell hq
  · exact num_roll hk
  · exact num_toggle
  · exact num_level hk
  · exact num_buy hk
  · exact num_sell
  · exact num_board hk
  · exact num_bench hk
  · exact num_round
theorem num_act {h : hT} {v : Int32} (hq : (hQ h).length ≤ 100) (hk : hallOk 9 h) : numA (fAct h v) := by
  unfold fAct fAc
  repeat' split
  all_goals exact num_do hq hk
theorem aI_ok {r : rT} (hn : numA r) (e : ¬ aI r = -99999) : r.1 = 0 ∧ aI r = r.2.1 := by
  unfold aI at e ⊢
  by_cases c : r.1 = 0
  · exact ⟨c, if_pos c⟩
  · rw [if_neg c] at e
    exact absurd rfl e
theorem aI_no {r : rT} (hn : numA r) (e : aI r = -99999) : ¬ r.1 = 0 := by
  intro c
  obtain ⟨n, h1, h2⟩ := hn c
  unfold aI at e
  rw [if_pos c, h2] at e
  exact nI_m9 h1 e
theorem hall_q {s : sgT} {o : Nat} {h : hT} (hh : hallIs s o h) : (hQ h).length ≤ 100 := by
  obtain ⟨⟨f, -, -, -, h1, -⟩, -⟩ := hh
  exact h1
