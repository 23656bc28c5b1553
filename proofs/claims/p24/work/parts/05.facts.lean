/-! the words that the walks use: by program out of the claim's own tables (facts.py) -/
theorem gMem {w : Cond} {i : Nat} (h : tables_1[i]? = some w) (g : goodWord w = true) : w ∈ gWds := List.mem_filter.mpr ⟨gTb (List.mem_of_getElem? h), g⟩
theorem gSel {y : MethodName} {i : Nat} {n : Nat} (h : lw_privs[i]? = some (y, n)) : Cond.selects y.cls y y ∈ gWds := List.mem_filter.mpr ⟨gSl (List.mem_of_getElem? h), rfl⟩
theorem gFl {L : List Cond} (h : ∀ w ∈ L.filter goodWord, w ∈ lw_tbl) : ∀ w ∈ L.filter goodWord, w ∈ gWds := fun w hw => List.mem_filter.mpr ⟨h w hw, (List.mem_filter.mp hw).2⟩
theorem gIn {C : String} {T : u_T} {N : Nat} (h : ∀ k, k < N → u_lay C T k ∈ gWds) : ∀ w ∈ u_ws C T N, w ∈ gWds := by
  intro w hw
  obtain ⟨k, hk, rfl⟩ := List.mem_map.mp hw
  exact h k (List.mem_range.mp hk)
theorem in_X0 : ∀ w ∈ u_ws RX0 TX0 5, w ∈ gWds := gIn (fun k hk => match k, hk with
  | 0, _ => gMem (i := 86) (by decide +kernel) (by rfl)
  | 1, _ => gMem (i := 88) (by decide +kernel) (by rfl)
  | 2, _ => gMem (i := 90) (by decide +kernel) (by rfl)
  | 3, _ => gMem (i := 92) (by decide +kernel) (by rfl)
  | 4, _ => gMem (i := 94) (by decide +kernel) (by rfl)
  | n + 5, hk => absurd hk (by omega))
theorem ft_X0 : fTy RX0 TX0 5 tyX0 := ⟨tyX0_ok, nmX0⟩
theorem in_X1 : ∀ w ∈ u_ws RX1 TX1 3, w ∈ gWds := gIn (fun k hk => match k, hk with
  | 0, _ => gMem (i := 48) (by decide +kernel) (by rfl)
  | 1, _ => gMem (i := 50) (by decide +kernel) (by rfl)
  | 2, _ => gMem (i := 52) (by decide +kernel) (by rfl)
  | n + 3, hk => absurd hk (by omega))
theorem ft_X1 : fTy RX1 TX1 3 tyX1 := ⟨tyX1_ok, nmX1⟩
theorem in_X2 : ∀ w ∈ u_ws RX2 TX2 8, w ∈ gWds := gIn (fun k hk => match k, hk with
  | 0, _ => gMem (i := 138) (by decide +kernel) (by rfl)
  | 1, _ => gMem (i := 140) (by decide +kernel) (by rfl)
  | 2, _ => gMem (i := 142) (by decide +kernel) (by rfl)
  | 3, _ => gMem (i := 144) (by decide +kernel) (by rfl)
  | 4, _ => gMem (i := 146) (by decide +kernel) (by rfl)
  | 5, _ => gMem (i := 148) (by decide +kernel) (by rfl)
  | 6, _ => gMem (i := 150) (by decide +kernel) (by rfl)
  | 7, _ => gMem (i := 152) (by decide +kernel) (by rfl)
  | n + 8, hk => absurd hk (by omega))
theorem ft_X2 : fTy RX2 TX2 8 tyX2 := ⟨tyX2_ok, nmX2⟩
theorem in_X3 : ∀ w ∈ u_ws RX3 TX3 1, w ∈ gWds := gIn (fun k hk => match k, hk with
  | 0, _ => gMem (i := 34) (by decide +kernel) (by rfl)
  | n + 1, hk => absurd hk (by omega))
theorem ft_X3 : fTy RX3 TX3 1 tyX3 := ⟨tyX3_ok, nmX3⟩
theorem in_X4 : ∀ w ∈ u_ws RX4 TX4 4, w ∈ gWds := gIn (fun k hk => match k, hk with
  | 0, _ => gMem (i := 72) (by decide +kernel) (by rfl)
  | 1, _ => gMem (i := 74) (by decide +kernel) (by rfl)
  | 2, _ => gMem (i := 76) (by decide +kernel) (by rfl)
  | 3, _ => gMem (i := 78) (by decide +kernel) (by rfl)
  | n + 4, hk => absurd hk (by omega))
theorem ft_X4 : fTy RX4 TX4 4 tyX4 := ⟨tyX4_ok, nmX4⟩
theorem in_X5 : ∀ w ∈ u_ws RX5 TX5 3, w ∈ gWds := gIn (fun k hk => match k, hk with
  | 0, _ => gMem (i := 116) (by decide +kernel) (by rfl)
  | 1, _ => gMem (i := 118) (by decide +kernel) (by rfl)
  | 2, _ => gMem (i := 120) (by decide +kernel) (by rfl)
  | n + 3, hk => absurd hk (by omega))
theorem ft_X5 : fTy RX5 TX5 3 tyX5 := ⟨tyX5_ok, nmX5⟩
theorem in_X6 : ∀ w ∈ u_ws RX6 TX6 5, w ∈ gWds := gIn (fun k hk => match k, hk with
  | 0, _ => gMem (i := 160) (by decide +kernel) (by rfl)
  | 1, _ => gMem (i := 162) (by decide +kernel) (by rfl)
  | 2, _ => gMem (i := 164) (by decide +kernel) (by rfl)
  | 3, _ => gMem (i := 166) (by decide +kernel) (by rfl)
  | 4, _ => gMem (i := 168) (by decide +kernel) (by rfl)
  | n + 5, hk => absurd hk (by omega))
theorem ft_X6 : fTy RX6 TX6 5 tyX6 := ⟨tyX6_ok, nmX6⟩
theorem in_X7 : ∀ w ∈ u_ws RX7 TX7 0, w ∈ gWds := gIn (fun k hk => match k, hk with

  | n + 0, hk => absurd hk (by omega))
theorem ft_X7 : fTy RX7 TX7 0 tyX7 := ⟨tyX7_ok, nmX7⟩
abbrev mL_act : mT := (RL, "act", "(LGladehall;I)I", 7, some .int, [])
theorem mk_L_act : mOK mL_act cL_act 2 := ⟨gMem (i := 180) (by decide +kernel) (by rfl), gMem (i := 0) (by decide +kernel) (by rfl), by decide +kernel, by decide +kernel, by decide +kernel⟩
theorem ms_L_act : Cond.static (mY mL_act) ∈ gWds := gMem (i := 179) (by decide +kernel) (by rfl)
abbrev mL_areAlike : mT := (RL, "areAlike", "(LGladehall;LGladehall;)Z", 5, some .boolean, [])
theorem mk_L_areAlike : mOK mL_areAlike cL_areAlike 2 := ⟨gMem (i := 516) (by decide +kernel) (by rfl), gMem (i := 0) (by decide +kernel) (by rfl), by decide +kernel, by decide +kernel, by decide +kernel⟩
theorem ms_L_areAlike : Cond.static (mY mL_areAlike) ∈ gWds := gMem (i := 515) (by decide +kernel) (by rfl)
abbrev mL_bench : mT := (RL, "bench", "(LGladehall;I)I", 3, some .int, [])
theorem mk_L_bench : mOK mL_bench cL_bench 2 := ⟨gMem (i := 562) (by decide +kernel) (by rfl), gMem (i := 0) (by decide +kernel) (by rfl), by decide +kernel, by decide +kernel, by decide +kernel⟩
theorem ms_L_bench : Cond.static (mY mL_bench) ∈ gWds := gMem (i := 561) (by decide +kernel) (by rfl)
abbrev mL_board : mT := (RL, "board", "(LGladehall;I)I", 3, some .int, [])
theorem mk_L_board : mOK mL_board cL_board 2 := ⟨gMem (i := 556) (by decide +kernel) (by rfl), gMem (i := 0) (by decide +kernel) (by rfl), by decide +kernel, by decide +kernel, by decide +kernel⟩
theorem ms_L_board : Cond.static (mY mL_board) ∈ gWds := gMem (i := 555) (by decide +kernel) (by rfl)
abbrev mL_cell : mT := (RL, "cell", "([II)I", 2, some .int, [])
theorem mk_L_cell : mOK mL_cell cL_cell 2 := ⟨gMem (i := 173) (by decide +kernel) (by rfl), gMem (i := 0) (by decide +kernel) (by rfl), by decide +kernel, by decide +kernel, by decide +kernel⟩
theorem ms_L_cell : Cond.static (mY mL_cell) ∈ gWds := gMem (i := 172) (by decide +kernel) (by rfl)
abbrev mL_does : mT := (RL, "does", "(LGladehall;III)I", 5, some .int, [(0, 121, 122, 41), (0, 121, 127, 44), (0, 121, 132, 46), (0, 121, 137, 48)])
theorem mk_L_does : mOK mL_does cL_does 4 := ⟨gMem (i := 183) (by decide +kernel) (by rfl), gMem (i := 0) (by decide +kernel) (by rfl), by decide +kernel, by decide +kernel, by decide +kernel⟩
theorem ms_L_does : Cond.static (mY mL_does) ∈ gWds := gMem (i := 182) (by decide +kernel) (by rfl)
abbrev mL_isFoughtSo : mT := (RL, "isFoughtSo", "(LGladehall;II)Z", 5, some .boolean, [])
theorem mk_L_isFoughtSo : mOK mL_isFoughtSo cL_isFoughtSo 3 := ⟨gMem (i := 591) (by decide +kernel) (by rfl), gMem (i := 0) (by decide +kernel) (by rfl), by decide +kernel, by decide +kernel, by decide +kernel⟩
theorem ms_L_isFoughtSo : Cond.static (mY mL_isFoughtSo) ∈ gWds := gMem (i := 590) (by decide +kernel) (by rfl)
abbrev mL_isHallSo : mT := (RL, "isHallSo", "(LGladehall;I)Z", 7, some .boolean, [])
theorem mk_L_isHallSo : mOK mL_isHallSo cL_isHallSo 2 := ⟨gMem (i := 553) (by decide +kernel) (by rfl), gMem (i := 0) (by decide +kernel) (by rfl), by decide +kernel, by decide +kernel, by decide +kernel⟩
theorem ms_L_isHallSo : Cond.static (mY mL_isHallSo) ∈ gWds := gMem (i := 552) (by decide +kernel) (by rfl)
abbrev mL_isMovedSo : mT := (RL, "isMovedSo", "(LGladehall;LGladehall;II)Z", 9, some .boolean, [])
theorem mk_L_isMovedSo : mOK mL_isMovedSo cL_isMovedSo 4 := ⟨gMem (i := 606) (by decide +kernel) (by rfl), gMem (i := 0) (by decide +kernel) (by rfl), by decide +kernel, by decide +kernel, by decide +kernel⟩
theorem ms_L_isMovedSo : Cond.static (mY mL_isMovedSo) ∈ gWds := gMem (i := 605) (by decide +kernel) (by rfl)
abbrev mL_isSoldSo : mT := (RL, "isSoldSo", "(LGladehall;LGladehall;II)Z", 11, some .boolean, [])
theorem mk_L_isSoldSo : mOK mL_isSoldSo cL_isSoldSo 4 := ⟨gMem (i := 609) (by decide +kernel) (by rfl), gMem (i := 0) (by decide +kernel) (by rfl), by decide +kernel, by decide +kernel, by decide +kernel⟩
theorem ms_L_isSoldSo : Cond.static (mY mL_isSoldSo) ∈ gWds := gMem (i := 608) (by decide +kernel) (by rfl)
abbrev mL_law : mT := (RL, "law", "([I)Z", 7, some .boolean, [])
abbrev mL_low : mT := (RL, "low", "(II)I", 2, some .int, [])
theorem mk_L_low : mOK mL_low cL_low 2 := ⟨gMem (i := 176) (by decide +kernel) (by rfl), gMem (i := 0) (by decide +kernel) (by rfl), by decide +kernel, by decide +kernel, by decide +kernel⟩
theorem ms_L_low : Cond.static (mY mL_low) ∈ gWds := gMem (i := 175) (by decide +kernel) (by rfl)
abbrev mL_units : mT := (RL, "units", "(LGladehall;I)I", 4, some .int, [])
theorem mk_L_units : mOK mL_units cL_units 2 := ⟨gMem (i := 559) (by decide +kernel) (by rfl), gMem (i := 0) (by decide +kernel) (by rfl), by decide +kernel, by decide +kernel, by decide +kernel⟩
theorem ms_L_units : Cond.static (mY mL_units) ∈ gWds := gMem (i := 558) (by decide +kernel) (by rfl)
abbrev mX0_fightOut : mT := (RX0, "fightOut", "()V", 6, none, [])
theorem mk_X0_fightOut : mOK mX0_fightOut cX0_fightOut 0 := ⟨gMem (i := 471) (by decide +kernel) (by rfl), gMem (i := 4) (by decide +kernel) (by rfl), by decide +kernel, by decide +kernel, by decide +kernel⟩
theorem mi_X0_fightOut : mInst mX0_fightOut := ⟨gMem (i := 470) (by decide +kernel) (by rfl), gSel (y := mY mX0_fightOut) (i := 25) (n := 5) (by decide +kernel)⟩
abbrev mX0_init : mT := (RX0, "<init>", "()V", 1, none, [])
theorem mk_X0_init : mOK mX0_init cX0_init 0 := ⟨gMem (i := 59) (by decide +kernel) (by rfl), gMem (i := 4) (by decide +kernel) (by rfl), by decide +kernel, by decide +kernel, by decide +kernel⟩
theorem mi_X0_init : Cond.instanceMethod (mY mX0_init) ∈ gWds := gMem (i := 58) (by decide +kernel) (by rfl)
abbrev mX0_muster : mT := (RX0, "muster", "(LGladehall$UnitRow;LGladehall$UnitRow;)V", 3, none, [])
theorem mk_X0_muster : mOK mX0_muster cX0_muster 2 := ⟨gMem (i := 449) (by decide +kernel) (by rfl), gMem (i := 4) (by decide +kernel) (by rfl), by decide +kernel, by decide +kernel, by decide +kernel⟩
theorem mi_X0_muster : mInst mX0_muster := ⟨gMem (i := 448) (by decide +kernel) (by rfl), gSel (y := mY mX0_muster) (i := 20) (n := 5) (by decide +kernel)⟩
abbrev mX0_redo : mT := (RX0, "redo", "()V", 3, none, [])
theorem mk_X0_redo : mOK mX0_redo cX0_redo 0 := ⟨gMem (i := 603) (by decide +kernel) (by rfl), gMem (i := 4) (by decide +kernel) (by rfl), by decide +kernel, by decide +kernel, by decide +kernel⟩
theorem mi_X0_redo : mInst mX0_redo := ⟨gMem (i := 602) (by decide +kernel) (by rfl), gSel (y := mY mX0_redo) (i := 39) (n := 5) (by decide +kernel)⟩
abbrev mX0_result : mT := (RX0, "result", "()I", 1, some .int, [])
theorem mk_X0_result : mOK mX0_result cX0_result 0 := ⟨gMem (i := 487) (by decide +kernel) (by rfl), gMem (i := 4) (by decide +kernel) (by rfl), by decide +kernel, by decide +kernel, by decide +kernel⟩
theorem mi_X0_result : mInst mX0_result := ⟨gMem (i := 486) (by decide +kernel) (by rfl), gSel (y := mY mX0_result) (i := 29) (n := 5) (by decide +kernel)⟩
abbrev mX1_append : mT := (RX1, "append", "(I)Z", 2, some .boolean, [])
theorem mk_X1_append : mOK mX1_append cX1_append 1 := ⟨gMem (i := 264) (by decide +kernel) (by rfl), gMem (i := 3) (by decide +kernel) (by rfl), by decide +kernel, by decide +kernel, by decide +kernel⟩
theorem mi_X1_append : mInst mX1_append := ⟨gMem (i := 263) (by decide +kernel) (by rfl), gSel (y := mY mX1_append) (i := 1) (n := 3) (by decide +kernel)⟩
abbrev mX1_init : mT := (RX1, "<init>", "()V", 1, none, [])
theorem mk_X1_init : mOK mX1_init cX1_init 0 := ⟨gMem (i := 42) (by decide +kernel) (by rfl), gMem (i := 3) (by decide +kernel) (by rfl), by decide +kernel, by decide +kernel, by decide +kernel⟩
theorem mi_X1_init : Cond.instanceMethod (mY mX1_init) ∈ gWds := gMem (i := 41) (by decide +kernel) (by rfl)
abbrev mX1_take : mT := (RX1, "take", "()I", 2, some .int, [])
theorem mk_X1_take : mOK mX1_take cX1_take 0 := ⟨gMem (i := 317) (by decide +kernel) (by rfl), gMem (i := 3) (by decide +kernel) (by rfl), by decide +kernel, by decide +kernel, by decide +kernel⟩
theorem mi_X1_take : mInst mX1_take := ⟨gMem (i := 316) (by decide +kernel) (by rfl), gSel (y := mY mX1_take) (i := 5) (n := 3) (by decide +kernel)⟩
abbrev mX2_addGold : mT := (RX2, "addGold", "(I)V", 2, none, [])
theorem mk_X2_addGold : mOK mX2_addGold cX2_addGold 1 := ⟨gMem (i := 417) (by decide +kernel) (by rfl), gMem (i := 6) (by decide +kernel) (by rfl), by decide +kernel, by decide +kernel, by decide +kernel⟩
theorem mi_X2_addGold : mInst mX2_addGold := ⟨gMem (i := 416) (by decide +kernel) (by rfl), gSel (y := mY mX2_addGold) (i := 17) (n := 8) (by decide +kernel)⟩
abbrev mX2_earn : mT := (RX2, "earn", "()V", 3, none, [])
theorem mk_X2_earn : mOK mX2_earn cX2_earn 0 := ⟨gMem (i := 503) (by decide +kernel) (by rfl), gMem (i := 6) (by decide +kernel) (by rfl), by decide +kernel, by decide +kernel, by decide +kernel⟩
theorem mi_X2_earn : mInst mX2_earn := ⟨gMem (i := 502) (by decide +kernel) (by rfl), gSel (y := mY mX2_earn) (i := 33) (n := 8) (by decide +kernel)⟩
abbrev mX2_init : mT := (RX2, "<init>", "()V", 2, none, [])
theorem mk_X2_init : mOK mX2_init cX2_init 0 := ⟨gMem (i := 100) (by decide +kernel) (by rfl), gMem (i := 6) (by decide +kernel) (by rfl), by decide +kernel, by decide +kernel, by decide +kernel⟩
theorem mi_X2_init : Cond.instanceMethod (mY mX2_init) ∈ gWds := gMem (i := 99) (by decide +kernel) (by rfl)
abbrev mX2_lose : mT := (RX2, "lose", "(I)V", 2, none, [])
theorem mk_X2_lose : mOK mX2_lose cX2_lose 1 := ⟨gMem (i := 499) (by decide +kernel) (by rfl), gMem (i := 6) (by decide +kernel) (by rfl), by decide +kernel, by decide +kernel, by decide +kernel⟩
theorem mi_X2_lose : mInst mX2_lose := ⟨gMem (i := 498) (by decide +kernel) (by rfl), gSel (y := mY mX2_lose) (i := 32) (n := 8) (by decide +kernel)⟩
abbrev mX2_mergeFirstThree : mT := (RX2, "mergeFirstThree", "()Z", 3, some .boolean, [])
theorem mk_X2_mergeFirstThree : mOK mX2_mergeFirstThree cX2_mergeFirstThree 0 := ⟨gMem (i := 376) (by decide +kernel) (by rfl), gMem (i := 6) (by decide +kernel) (by rfl), by decide +kernel, by decide +kernel, by decide +kernel⟩
theorem mi_X2_mergeFirstThree : mInst mX2_mergeFirstThree := ⟨gMem (i := 375) (by decide +kernel) (by rfl), gSel (y := mY mX2_mergeFirstThree) (i := 10) (n := 8) (by decide +kernel)⟩
abbrev mX2_mergeThree : mT := (RX2, "mergeThree", "(II)V", 7, none, [])
theorem mk_X2_mergeThree : mOK mX2_mergeThree cX2_mergeThree 2 := ⟨gMem (i := 384) (by decide +kernel) (by rfl), gMem (i := 6) (by decide +kernel) (by rfl), by decide +kernel, by decide +kernel, by decide +kernel⟩
theorem mi_X2_mergeThree : mInst mX2_mergeThree := ⟨gMem (i := 383) (by decide +kernel) (by rfl), gSel (y := mY mX2_mergeThree) (i := 12) (n := 8) (by decide +kernel)⟩
abbrev mX2_mergeThrees : mT := (RX2, "mergeThrees", "()V", 2, none, [])
theorem mk_X2_mergeThrees : mOK mX2_mergeThrees cX2_mergeThrees 0 := ⟨gMem (i := 372) (by decide +kernel) (by rfl), gMem (i := 6) (by decide +kernel) (by rfl), by decide +kernel, by decide +kernel, by decide +kernel⟩
theorem mi_X2_mergeThrees : mInst mX2_mergeThrees := ⟨gMem (i := 371) (by decide +kernel) (by rfl), gSel (y := mY mX2_mergeThrees) (i := 9) (n := 8) (by decide +kernel)⟩
abbrev mX2_rowOfFirst : mT := (RX2, "rowOfFirst", "(II)LGladehall$UnitRow;", 3, some (.object "Gladehall$UnitRow"), [])
theorem mk_X2_rowOfFirst : mOK mX2_rowOfFirst cX2_rowOfFirst 2 := ⟨gMem (i := 388) (by decide +kernel) (by rfl), gMem (i := 6) (by decide +kernel) (by rfl), by decide +kernel, by decide +kernel, by decide +kernel⟩
theorem mi_X2_rowOfFirst : mInst mX2_rowOfFirst := ⟨gMem (i := 387) (by decide +kernel) (by rfl), gSel (y := mY mX2_rowOfFirst) (i := 13) (n := 8) (by decide +kernel)⟩
abbrev mX2_unitsHeld : mT := (RX2, "unitsHeld", "(I)I", 4, some .int, [])
theorem mk_X2_unitsHeld : mOK mX2_unitsHeld cX2_unitsHeld 1 := ⟨gMem (i := 578) (by decide +kernel) (by rfl), gMem (i := 6) (by decide +kernel) (by rfl), by decide +kernel, by decide +kernel, by decide +kernel⟩
theorem mi_X2_unitsHeld : mInst mX2_unitsHeld := ⟨gMem (i := 577) (by decide +kernel) (by rfl), gSel (y := mY mX2_unitsHeld) (i := 37) (n := 8) (by decide +kernel)⟩
abbrev mX2_win : mT := (RX2, "win", "()V", 1, none, [])
theorem mk_X2_win : mOK mX2_win cX2_win 0 := ⟨gMem (i := 495) (by decide +kernel) (by rfl), gMem (i := 6) (by decide +kernel) (by rfl), by decide +kernel, by decide +kernel, by decide +kernel⟩
theorem mi_X2_win : mInst mX2_win := ⟨gMem (i := 494) (by decide +kernel) (by rfl), gSel (y := mY mX2_win) (i := 31) (n := 8) (by decide +kernel)⟩
abbrev mX3_draw : mT := (RX3, "draw", "(II)I", 6, some .int, [])
theorem mk_X3_draw : mOK mX3_draw cX3_draw 2 := ⟨gMem (i := 321) (by decide +kernel) (by rfl), gMem (i := 2) (by decide +kernel) (by rfl), by decide +kernel, by decide +kernel, by decide +kernel⟩
theorem mi_X3_draw : mInst mX3_draw := ⟨gMem (i := 320) (by decide +kernel) (by rfl), gSel (y := mY mX3_draw) (i := 6) (n := 1) (by decide +kernel)⟩
abbrev mX3_init : mT := (RX3, "<init>", "()V", 2, none, [])
theorem mk_X3_init : mOK mX3_init cX3_init 0 := ⟨gMem (i := 30) (by decide +kernel) (by rfl), gMem (i := 2) (by decide +kernel) (by rfl), by decide +kernel, by decide +kernel, by decide +kernel⟩
theorem mi_X3_init : Cond.instanceMethod (mY mX3_init) ∈ gWds := gMem (i := 29) (by decide +kernel) (by rfl)
abbrev mX3_putBack : mT := (RX3, "putBack", "(II)V", 3, none, [])
theorem mk_X3_putBack : mOK mX3_putBack cX3_putBack 2 := ⟨gMem (i := 313) (by decide +kernel) (by rfl), gMem (i := 2) (by decide +kernel) (by rfl), by decide +kernel, by decide +kernel, by decide +kernel⟩
theorem mi_X3_putBack : mInst mX3_putBack := ⟨gMem (i := 312) (by decide +kernel) (by rfl), gSel (y := mY mX3_putBack) (i := 4) (n := 1) (by decide +kernel)⟩
abbrev mX3_unitsUpTo : mT := (RX3, "unitsUpTo", "(I)I", 4, some .int, [])
theorem mk_X3_unitsUpTo : mOK mX3_unitsUpTo cX3_unitsUpTo 1 := ⟨gMem (i := 325) (by decide +kernel) (by rfl), gMem (i := 2) (by decide +kernel) (by rfl), by decide +kernel, by decide +kernel, by decide +kernel⟩
theorem mi_X3_unitsUpTo : mInst mX3_unitsUpTo := ⟨gMem (i := 324) (by decide +kernel) (by rfl), gSel (y := mY mX3_unitsUpTo) (i := 7) (n := 1) (by decide +kernel)⟩
abbrev mX4_firstLiving : mT := (RX4, "firstLiving", "()I", 2, some .int, [])
theorem mk_X4_firstLiving : mOK mX4_firstLiving cX4_firstLiving 0 := ⟨gMem (i := 479) (by decide +kernel) (by rfl), gMem (i := 5) (by decide +kernel) (by rfl), by decide +kernel, by decide +kernel, by decide +kernel⟩
theorem mi_X4_firstLiving : mInst mX4_firstLiving := ⟨gMem (i := 478) (by decide +kernel) (by rfl), gSel (y := mY mX4_firstLiving) (i := 27) (n := 4) (by decide +kernel)⟩
abbrev mX4_init : mT := (RX4, "<init>", "()V", 1, none, [])
theorem mk_X4_init : mOK mX4_init cX4_init 0 := ⟨gMem (i := 65) (by decide +kernel) (by rfl), gMem (i := 5) (by decide +kernel) (by rfl), by decide +kernel, by decide +kernel, by decide +kernel⟩
theorem mi_X4_init : Cond.instanceMethod (mY mX4_init) ∈ gWds := gMem (i := 64) (by decide +kernel) (by rfl)
abbrev mX4_living : mT := (RX4, "living", "()I", 3, some .int, [])
theorem mk_X4_living : mOK mX4_living cX4_living 0 := ⟨gMem (i := 491) (by decide +kernel) (by rfl), gMem (i := 5) (by decide +kernel) (by rfl), by decide +kernel, by decide +kernel, by decide +kernel⟩
theorem mi_X4_living : mInst mX4_living := ⟨gMem (i := 490) (by decide +kernel) (by rfl), gSel (y := mY mX4_living) (i := 30) (n := 4) (by decide +kernel)⟩
abbrev mX4_muster : mT := (RX4, "muster", "(LGladehall$UnitRow;)V", 3, none, [])
theorem mk_X4_muster : mOK mX4_muster cX4_muster 1 := ⟨gMem (i := 453) (by decide +kernel) (by rfl), gMem (i := 5) (by decide +kernel) (by rfl), by decide +kernel, by decide +kernel, by decide +kernel⟩
theorem mi_X4_muster : mInst mX4_muster := ⟨gMem (i := 452) (by decide +kernel) (by rfl), gSel (y := mY mX4_muster) (i := 21) (n := 4) (by decide +kernel)⟩
abbrev mX4_takeBlow : mT := (RX4, "takeBlow", "(II)V", 3, none, [])
theorem mk_X4_takeBlow : mOK mX4_takeBlow cX4_takeBlow 2 := ⟨gMem (i := 483) (by decide +kernel) (by rfl), gMem (i := 5) (by decide +kernel) (by rfl), by decide +kernel, by decide +kernel, by decide +kernel⟩
theorem mi_X4_takeBlow : mInst mX4_takeBlow := ⟨gMem (i := 482) (by decide +kernel) (by rfl), gSel (y := mY mX4_takeBlow) (i := 28) (n := 4) (by decide +kernel)⟩
abbrev mX4_takeTurn : mT := (RX4, "takeTurn", "()I", 3, some .int, [])
theorem mk_X4_takeTurn : mOK mX4_takeTurn cX4_takeTurn 0 := ⟨gMem (i := 475) (by decide +kernel) (by rfl), gMem (i := 5) (by decide +kernel) (by rfl), by decide +kernel, by decide +kernel, by decide +kernel⟩
theorem mi_X4_takeTurn : mInst mX4_takeTurn := ⟨gMem (i := 474) (by decide +kernel) (by rfl), gSel (y := mY mX4_takeTurn) (i := 26) (n := 4) (by decide +kernel)⟩
abbrev mX5_append : mT := (RX5, "append", "(II)Z", 3, some .boolean, [])
theorem mk_X5_append : mOK mX5_append cX5_append 2 := ⟨gMem (i := 367) (by decide +kernel) (by rfl), gMem (i := 7) (by decide +kernel) (by rfl), by decide +kernel, by decide +kernel, by decide +kernel⟩
theorem mi_X5_append : mInst mX5_append := ⟨gMem (i := 366) (by decide +kernel) (by rfl), gSel (y := mY mX5_append) (i := 8) (n := 3) (by decide +kernel)⟩
abbrev mX5_countOf : mT := (RX5, "countOf", "(II)I", 5, some .int, [])
theorem mk_X5_countOf : mOK mX5_countOf cX5_countOf 2 := ⟨gMem (i := 380) (by decide +kernel) (by rfl), gMem (i := 7) (by decide +kernel) (by rfl), by decide +kernel, by decide +kernel, by decide +kernel⟩
theorem mi_X5_countOf : mInst mX5_countOf := ⟨gMem (i := 379) (by decide +kernel) (by rfl), gSel (y := mY mX5_countOf) (i := 11) (n := 3) (by decide +kernel)⟩
abbrev mX5_find : mT := (RX5, "find", "(II)I", 4, some .int, [])
theorem mk_X5_find : mOK mX5_find cX5_find 2 := ⟨gMem (i := 392) (by decide +kernel) (by rfl), gMem (i := 7) (by decide +kernel) (by rfl), by decide +kernel, by decide +kernel, by decide +kernel⟩
theorem mi_X5_find : mInst mX5_find := ⟨gMem (i := 391) (by decide +kernel) (by rfl), gSel (y := mY mX5_find) (i := 14) (n := 3) (by decide +kernel)⟩
abbrev mX5_has : mT := (RX5, "has", "(I)Z", 2, some .boolean, [])
theorem mk_X5_has : mOK mX5_has cX5_has 1 := ⟨gMem (i := 400) (by decide +kernel) (by rfl), gMem (i := 7) (by decide +kernel) (by rfl), by decide +kernel, by decide +kernel, by decide +kernel⟩
theorem mi_X5_has : mInst mX5_has := ⟨gMem (i := 399) (by decide +kernel) (by rfl), gSel (y := mY mX5_has) (i := 16) (n := 3) (by decide +kernel)⟩
abbrev mX5_hasKind : mT := (RX5, "hasKind", "(I)Z", 3, some .boolean, [])
theorem mk_X5_hasKind : mOK mX5_hasKind cX5_hasKind 1 := ⟨gMem (i := 467) (by decide +kernel) (by rfl), gMem (i := 7) (by decide +kernel) (by rfl), by decide +kernel, by decide +kernel, by decide +kernel⟩
theorem mi_X5_hasKind : mInst mX5_hasKind := ⟨gMem (i := 466) (by decide +kernel) (by rfl), gSel (y := mY mX5_hasKind) (i := 24) (n := 3) (by decide +kernel)⟩
abbrev mX5_healthAt : mT := (RX5, "healthAt", "(I)I", 2, some .int, [])
theorem mk_X5_healthAt : mOK mX5_healthAt cX5_healthAt 1 := ⟨gMem (i := 458) (by decide +kernel) (by rfl), gMem (i := 7) (by decide +kernel) (by rfl), by decide +kernel, by decide +kernel, by decide +kernel⟩
theorem mi_X5_healthAt : mInst mX5_healthAt := ⟨gMem (i := 457) (by decide +kernel) (by rfl), gSel (y := mY mX5_healthAt) (i := 22) (n := 3) (by decide +kernel)⟩
abbrev mX5_init : mT := (RX5, "<init>", "(I)V", 2, none, [])
theorem mk_X5_init : mOK mX5_init cX5_init 1 := ⟨gMem (i := 106) (by decide +kernel) (by rfl), gMem (i := 7) (by decide +kernel) (by rfl), by decide +kernel, by decide +kernel, by decide +kernel⟩
theorem mi_X5_init : Cond.instanceMethod (mY mX5_init) ∈ gWds := gMem (i := 105) (by decide +kernel) (by rfl)
abbrev mX5_removeAt : mT := (RX5, "removeAt", "(I)V", 3, none, [])
theorem mk_X5_removeAt : mOK mX5_removeAt cX5_removeAt 1 := ⟨gMem (i := 396) (by decide +kernel) (by rfl), gMem (i := 7) (by decide +kernel) (by rfl), by decide +kernel, by decide +kernel, by decide +kernel⟩
theorem mi_X5_removeAt : mInst mX5_removeAt := ⟨gMem (i := 395) (by decide +kernel) (by rfl), gSel (y := mY mX5_removeAt) (i := 15) (n := 3) (by decide +kernel)⟩
abbrev mX5_strengthAt : mT := (RX5, "strengthAt", "(I)I", 5, some .int, [])
theorem mk_X5_strengthAt : mOK mX5_strengthAt cX5_strengthAt 1 := ⟨gMem (i := 463) (by decide +kernel) (by rfl), gMem (i := 7) (by decide +kernel) (by rfl), by decide +kernel, by decide +kernel, by decide +kernel⟩
theorem mi_X5_strengthAt : mInst mX5_strengthAt := ⟨gMem (i := 462) (by decide +kernel) (by rfl), gSel (y := mY mX5_strengthAt) (i := 23) (n := 3) (by decide +kernel)⟩
abbrev mX5_unitAt : mT := (RX5, "unitAt", "(I)I", 2, some .int, [])
theorem mk_X5_unitAt : mOK mX5_unitAt cX5_unitAt 1 := ⟨gMem (i := 541) (by decide +kernel) (by rfl), gMem (i := 7) (by decide +kernel) (by rfl), by decide +kernel, by decide +kernel, by decide +kernel⟩
theorem mi_X5_unitAt : mInst mX5_unitAt := ⟨gMem (i := 540) (by decide +kernel) (by rfl), gSel (y := mY mX5_unitAt) (i := 36) (n := 3) (by decide +kernel)⟩
abbrev mX5_unitsHeld : mT := (RX5, "unitsHeld", "(I)I", 4, some .int, [])
theorem mk_X5_unitsHeld : mOK mX5_unitsHeld cX5_unitsHeld 1 := ⟨gMem (i := 582) (by decide +kernel) (by rfl), gMem (i := 7) (by decide +kernel) (by rfl), by decide +kernel, by decide +kernel, by decide +kernel⟩
theorem mi_X5_unitsHeld : mInst mX5_unitsHeld := ⟨gMem (i := 581) (by decide +kernel) (by rfl), gSel (y := mY mX5_unitsHeld) (i := 38) (n := 3) (by decide +kernel)⟩
abbrev mX6_benchAt : mT := (RX6, "benchAt", "(II)I", 4, some .int, [])
theorem mk_X6_benchAt : mOK mX6_benchAt cX6_benchAt 2 := ⟨gMem (i := 536) (by decide +kernel) (by rfl), gMem (i := 1) (by decide +kernel) (by rfl), by decide +kernel, by decide +kernel, by decide +kernel⟩
theorem mi_X6_benchAt : mInst mX6_benchAt := ⟨gMem (i := 534) (by decide +kernel) (by rfl), gMem (i := 535) (by decide +kernel) (by rfl)⟩
abbrev mX6_blow : mT := (RX6, "blow", "(II)I", 4, some .int, [])
theorem mk_X6_blow : mOK mX6_blow cX6_blow 2 := ⟨gMem (i := 587) (by decide +kernel) (by rfl), gMem (i := 1) (by decide +kernel) (by rfl), by decide +kernel, by decide +kernel, by decide +kernel⟩
theorem mi_X6_blow : mInst mX6_blow := ⟨gMem (i := 585) (by decide +kernel) (by rfl), gMem (i := 586) (by decide +kernel) (by rfl)⟩
abbrev mX6_boardAt : mT := (RX6, "boardAt", "(II)I", 4, some .int, [])
theorem mk_X6_boardAt : mOK mX6_boardAt cX6_boardAt 2 := ⟨gMem (i := 545) (by decide +kernel) (by rfl), gMem (i := 1) (by decide +kernel) (by rfl), by decide +kernel, by decide +kernel, by decide +kernel⟩
theorem mi_X6_boardAt : mInst mX6_boardAt := ⟨gMem (i := 543) (by decide +kernel) (by rfl), gMem (i := 544) (by decide +kernel) (by rfl)⟩
abbrev mX6_buy : mT := (RX6, "buy", "(II)I", 5, some .int, [])
theorem mk_X6_buy : mOK mX6_buy cX6_buy 2 := ⟨gMem (i := 342) (by decide +kernel) (by rfl), gMem (i := 1) (by decide +kernel) (by rfl), by decide +kernel, by decide +kernel, by decide +kernel⟩
theorem mi_X6_buy : mInst mX6_buy := ⟨gMem (i := 340) (by decide +kernel) (by rfl), gMem (i := 341) (by decide +kernel) (by rfl)⟩
abbrev mX6_buyLevel : mT := (RX6, "buyLevel", "(I)I", 3, some .int, [])
theorem mk_X6_buyLevel : mOK mX6_buyLevel cX6_buyLevel 1 := ⟨gMem (i := 336) (by decide +kernel) (by rfl), gMem (i := 1) (by decide +kernel) (by rfl), by decide +kernel, by decide +kernel, by decide +kernel⟩
theorem mi_X6_buyLevel : mInst mX6_buyLevel := ⟨gMem (i := 334) (by decide +kernel) (by rfl), gMem (i := 335) (by decide +kernel) (by rfl)⟩
abbrev mX6_costOf : mT := (RX6, "costOf", "(I)I", 1, some .int, [])
theorem mk_X6_costOf : mOK mX6_costOf cX6_costOf 1 := ⟨gMem (i := 328) (by decide +kernel) (by rfl), gMem (i := 1) (by decide +kernel) (by rfl), by decide +kernel, by decide +kernel, by decide +kernel⟩
theorem ms_X6_costOf : Cond.static (mY mX6_costOf) ∈ gWds := gMem (i := 327) (by decide +kernel) (by rfl)
abbrev mX6_fight : mT := (RX6, "fight", "(II)I", 3, some .int, [])
theorem mk_X6_fight : mOK mX6_fight cX6_fight 2 := ⟨gMem (i := 595) (by decide +kernel) (by rfl), gMem (i := 1) (by decide +kernel) (by rfl), by decide +kernel, by decide +kernel, by decide +kernel⟩
theorem mi_X6_fight : mInst mX6_fight := ⟨gMem (i := 593) (by decide +kernel) (by rfl), gMem (i := 594) (by decide +kernel) (by rfl)⟩
abbrev mX6_fightByRecord : mT := (RX6, "fightByRecord", "(II)I", 3, some .int, [])
theorem mk_X6_fightByRecord : mOK mX6_fightByRecord cX6_fightByRecord 2 := ⟨gMem (i := 599) (by decide +kernel) (by rfl), gMem (i := 1) (by decide +kernel) (by rfl), by decide +kernel, by decide +kernel, by decide +kernel⟩
theorem mi_X6_fightByRecord : mInst mX6_fightByRecord := ⟨gMem (i := 597) (by decide +kernel) (by rfl), gMem (i := 598) (by decide +kernel) (by rfl)⟩
abbrev mX6_fightPair : mT := (RX6, "fightPair", "(II)V", 4, none, [])
theorem mk_X6_fightPair : mOK mX6_fightPair cX6_fightPair 2 := ⟨gMem (i := 440) (by decide +kernel) (by rfl), gMem (i := 1) (by decide +kernel) (by rfl), by decide +kernel, by decide +kernel, by decide +kernel⟩
theorem mi_X6_fightPair : mInst mX6_fightPair := ⟨gMem (i := 439) (by decide +kernel) (by rfl), gSel (y := mY mX6_fightPair) (i := 18) (n := 5) (by decide +kernel)⟩
abbrev mX6_fillShop : mT := (RX6, "fillShop", "(LGladehall$Player;)V", 3, none, [])
theorem mk_X6_fillShop : mOK mX6_fillShop cX6_fillShop 1 := ⟨gMem (i := 309) (by decide +kernel) (by rfl), gMem (i := 1) (by decide +kernel) (by rfl), by decide +kernel, by decide +kernel, by decide +kernel⟩
theorem mi_X6_fillShop : mInst mX6_fillShop := ⟨gMem (i := 308) (by decide +kernel) (by rfl), gSel (y := mY mX6_fillShop) (i := 3) (n := 5) (by decide +kernel)⟩
abbrev mX6_fillUnlockedShops : mT := (RX6, "fillUnlockedShops", "()V", 3, none, [])
theorem mk_X6_fillUnlockedShops : mOK mX6_fillUnlockedShops cX6_fillUnlockedShops 0 := ⟨gMem (i := 508) (by decide +kernel) (by rfl), gMem (i := 1) (by decide +kernel) (by rfl), by decide +kernel, by decide +kernel, by decide +kernel⟩
theorem mi_X6_fillUnlockedShops : mInst mX6_fillUnlockedShops := ⟨gMem (i := 507) (by decide +kernel) (by rfl), gSel (y := mY mX6_fillUnlockedShops) (i := 34) (n := 5) (by decide +kernel)⟩
abbrev mX6_gold : mT := (RX6, "gold", "(I)I", 2, some .int, [])
theorem mk_X6_gold : mOK mX6_gold cX6_gold 1 := ⟨gMem (i := 524) (by decide +kernel) (by rfl), gMem (i := 1) (by decide +kernel) (by rfl), by decide +kernel, by decide +kernel, by decide +kernel⟩
theorem mi_X6_gold : mInst mX6_gold := ⟨gMem (i := 522) (by decide +kernel) (by rfl), gMem (i := 523) (by decide +kernel) (by rfl)⟩
abbrev mX6_health : mT := (RX6, "health", "(I)I", 2, some .int, [])
theorem mk_X6_health : mOK mX6_health cX6_health 1 := ⟨gMem (i := 528) (by decide +kernel) (by rfl), gMem (i := 1) (by decide +kernel) (by rfl), by decide +kernel, by decide +kernel, by decide +kernel⟩
theorem mi_X6_health : mInst mX6_health := ⟨gMem (i := 526) (by decide +kernel) (by rfl), gMem (i := 527) (by decide +kernel) (by rfl)⟩
abbrev mX6_init : mT := (RX6, "<init>", "()V", 2, none, [])
theorem mk_X6_init : mOK mX6_init cX6_init 0 := ⟨gMem (i := 20) (by decide +kernel) (by rfl), gMem (i := 1) (by decide +kernel) (by rfl), by decide +kernel, by decide +kernel, by decide +kernel⟩
theorem mi_X6_init : Cond.instanceMethod (mY mX6_init) ∈ gWds := gMem (i := 19) (by decide +kernel) (by rfl)
abbrev mX6_musterSides : mT := (RX6, "musterSides", "(II)V", 5, none, [])
theorem mk_X6_musterSides : mOK mX6_musterSides cX6_musterSides 2 := ⟨gMem (i := 444) (by decide +kernel) (by rfl), gMem (i := 1) (by decide +kernel) (by rfl), by decide +kernel, by decide +kernel, by decide +kernel⟩
theorem mi_X6_musterSides : mInst mX6_musterSides := ⟨gMem (i := 443) (by decide +kernel) (by rfl), gSel (y := mY mX6_musterSides) (i := 19) (n := 5) (by decide +kernel)⟩
abbrev mX6_out : mT := (RX6, "out", "(I)I", 4, some .int, [])
theorem mk_X6_out : mOK mX6_out cX6_out 1 := ⟨gMem (i := 574) (by decide +kernel) (by rfl), gMem (i := 1) (by decide +kernel) (by rfl), by decide +kernel, by decide +kernel, by decide +kernel⟩
theorem mi_X6_out : mInst mX6_out := ⟨gMem (i := 572) (by decide +kernel) (by rfl), gMem (i := 573) (by decide +kernel) (by rfl)⟩
abbrev mX6_playerOf : mT := (RX6, "playerOf", "(I)LGladehall$Player;", 2, some (.object "Gladehall$Player"), [])
theorem mk_X6_playerOf : mOK mX6_playerOf cX6_playerOf 1 := ⟨gMem (i := 288) (by decide +kernel) (by rfl), gMem (i := 1) (by decide +kernel) (by rfl), by decide +kernel, by decide +kernel, by decide +kernel⟩
theorem mi_X6_playerOf : mInst mX6_playerOf := ⟨gMem (i := 287) (by decide +kernel) (by rfl), gSel (y := mY mX6_playerOf) (i := 2) (n := 5) (by decide +kernel)⟩
abbrev mX6_playersWithHealth : mT := (RX6, "playersWithHealth", "()I", 3, some .int, [])
theorem mk_X6_playersWithHealth : mOK mX6_playersWithHealth cX6_playersWithHealth 0 := ⟨gMem (i := 512) (by decide +kernel) (by rfl), gMem (i := 1) (by decide +kernel) (by rfl), by decide +kernel, by decide +kernel, by decide +kernel⟩
theorem mi_X6_playersWithHealth : mInst mX6_playersWithHealth := ⟨gMem (i := 511) (by decide +kernel) (by rfl), gSel (y := mY mX6_playersWithHealth) (i := 35) (n := 5) (by decide +kernel)⟩
abbrev mX6_pool : mT := (RX6, "pool", "(I)I", 2, some .int, [])
theorem mk_X6_pool : mOK mX6_pool cX6_pool 1 := ⟨gMem (i := 566) (by decide +kernel) (by rfl), gMem (i := 1) (by decide +kernel) (by rfl), by decide +kernel, by decide +kernel, by decide +kernel⟩
theorem mi_X6_pool : mInst mX6_pool := ⟨gMem (i := 564) (by decide +kernel) (by rfl), gMem (i := 565) (by decide +kernel) (by rfl)⟩
abbrev mX6_requireKind : mT := (RX6, "requireKind", "(I)V", 1, none, [])
theorem mk_X6_requireKind : mOK mX6_requireKind cX6_requireKind 1 := ⟨gMem (i := 569) (by decide +kernel) (by rfl), gMem (i := 1) (by decide +kernel) (by rfl), by decide +kernel, by decide +kernel, by decide +kernel⟩
theorem ms_X6_requireKind : Cond.static (mY mX6_requireKind) ∈ gWds := gMem (i := 568) (by decide +kernel) (by rfl)
abbrev mX6_requireSlot : mT := (RX6, "requireSlot", "(I)V", 1, none, [])
theorem mk_X6_requireSlot : mOK mX6_requireSlot cX6_requireSlot 1 := ⟨gMem (i := 345) (by decide +kernel) (by rfl), gMem (i := 1) (by decide +kernel) (by rfl), by decide +kernel, by decide +kernel, by decide +kernel⟩
theorem ms_X6_requireSlot : Cond.static (mY mX6_requireSlot) ∈ gWds := gMem (i := 344) (by decide +kernel) (by rfl)
abbrev mX6_requireUnit : mT := (RX6, "requireUnit", "(LGladehall$UnitRow;I)V", 2, none, [])
theorem mk_X6_requireUnit : mOK mX6_requireUnit cX6_requireUnit 2 := ⟨gMem (i := 407) (by decide +kernel) (by rfl), gMem (i := 1) (by decide +kernel) (by rfl), by decide +kernel, by decide +kernel, by decide +kernel⟩
theorem ms_X6_requireUnit : Cond.static (mY mX6_requireUnit) ∈ gWds := gMem (i := 406) (by decide +kernel) (by rfl)
abbrev mX6_roll : mT := (RX6, "roll", "(I)I", 3, some .int, [])
theorem mk_X6_roll : mOK mX6_roll cX6_roll 1 := ⟨gMem (i := 284) (by decide +kernel) (by rfl), gMem (i := 1) (by decide +kernel) (by rfl), by decide +kernel, by decide +kernel, by decide +kernel⟩
theorem mi_X6_roll : mInst mX6_roll := ⟨gMem (i := 282) (by decide +kernel) (by rfl), gMem (i := 283) (by decide +kernel) (by rfl)⟩
abbrev mX6_round : mT := (RX6, "round", "()I", 3, some .int, [])
theorem mk_X6_round : mOK mX6_round cX6_round 0 := ⟨gMem (i := 433) (by decide +kernel) (by rfl), gMem (i := 1) (by decide +kernel) (by rfl), by decide +kernel, by decide +kernel, by decide +kernel⟩
theorem mi_X6_round : mInst mX6_round := ⟨gMem (i := 431) (by decide +kernel) (by rfl), gMem (i := 432) (by decide +kernel) (by rfl)⟩
abbrev mX6_rounds : mT := (RX6, "rounds", "()I", 1, some .int, [])
theorem mk_X6_rounds : mOK mX6_rounds cX6_rounds 0 := ⟨gMem (i := 520) (by decide +kernel) (by rfl), gMem (i := 1) (by decide +kernel) (by rfl), by decide +kernel, by decide +kernel, by decide +kernel⟩
theorem mi_X6_rounds : mInst mX6_rounds := ⟨gMem (i := 518) (by decide +kernel) (by rfl), gMem (i := 519) (by decide +kernel) (by rfl)⟩
abbrev mX6_sell : mT := (RX6, "sell", "(II)I", 6, some .int, [])
theorem mk_X6_sell : mOK mX6_sell cX6_sell 2 := ⟨gMem (i := 404) (by decide +kernel) (by rfl), gMem (i := 1) (by decide +kernel) (by rfl), by decide +kernel, by decide +kernel, by decide +kernel⟩
theorem mi_X6_sell : mInst mX6_sell := ⟨gMem (i := 402) (by decide +kernel) (by rfl), gMem (i := 403) (by decide +kernel) (by rfl)⟩
abbrev mX6_shopAt : mT := (RX6, "shopAt", "(II)I", 4, some .int, [])
theorem mk_X6_shopAt : mOK mX6_shopAt cX6_shopAt 2 := ⟨gMem (i := 550) (by decide +kernel) (by rfl), gMem (i := 1) (by decide +kernel) (by rfl), by decide +kernel, by decide +kernel, by decide +kernel⟩
theorem mi_X6_shopAt : mInst mX6_shopAt := ⟨gMem (i := 548) (by decide +kernel) (by rfl), gMem (i := 549) (by decide +kernel) (by rfl)⟩
abbrev mX6_streak : mT := (RX6, "streak", "(I)I", 2, some .int, [])
theorem mk_X6_streak : mOK mX6_streak cX6_streak 1 := ⟨gMem (i := 532) (by decide +kernel) (by rfl), gMem (i := 1) (by decide +kernel) (by rfl), by decide +kernel, by decide +kernel, by decide +kernel⟩
theorem mi_X6_streak : mInst mX6_streak := ⟨gMem (i := 530) (by decide +kernel) (by rfl), gMem (i := 531) (by decide +kernel) (by rfl)⟩
abbrev mX6_tell : mT := (RX6, "tell", "(I)I", 2, some .int, [])
theorem mk_X6_tell : mOK mX6_tell cX6_tell 1 := ⟨gMem (i := 191) (by decide +kernel) (by rfl), gMem (i := 1) (by decide +kernel) (by rfl), by decide +kernel, by decide +kernel, by decide +kernel⟩
theorem mi_X6_tell : mInst mX6_tell := ⟨gMem (i := 189) (by decide +kernel) (by rfl), gMem (i := 190) (by decide +kernel) (by rfl)⟩
abbrev mX6_toBench : mT := (RX6, "toBench", "(II)I", 4, some .int, [])
theorem mk_X6_toBench : mOK mX6_toBench cX6_toBench 2 := ⟨gMem (i := 429) (by decide +kernel) (by rfl), gMem (i := 1) (by decide +kernel) (by rfl), by decide +kernel, by decide +kernel, by decide +kernel⟩
theorem mi_X6_toBench : mInst mX6_toBench := ⟨gMem (i := 427) (by decide +kernel) (by rfl), gMem (i := 428) (by decide +kernel) (by rfl)⟩
abbrev mX6_toBoard : mT := (RX6, "toBoard", "(II)I", 4, some .int, [])
theorem mk_X6_toBoard : mOK mX6_toBoard cX6_toBoard 2 := ⟨gMem (i := 424) (by decide +kernel) (by rfl), gMem (i := 1) (by decide +kernel) (by rfl), by decide +kernel, by decide +kernel, by decide +kernel⟩
theorem mi_X6_toBoard : mInst mX6_toBoard := ⟨gMem (i := 422) (by decide +kernel) (by rfl), gMem (i := 423) (by decide +kernel) (by rfl)⟩
abbrev mX6_toggleLock : mT := (RX6, "toggleLock", "(I)Z", 3, some .boolean, [])
theorem mk_X6_toggleLock : mOK mX6_toggleLock cX6_toggleLock 1 := ⟨gMem (i := 332) (by decide +kernel) (by rfl), gMem (i := 1) (by decide +kernel) (by rfl), by decide +kernel, by decide +kernel, by decide +kernel⟩
theorem mi_X6_toggleLock : mInst mX6_toggleLock := ⟨gMem (i := 330) (by decide +kernel) (by rfl), gMem (i := 331) (by decide +kernel) (by rfl)⟩
abbrev mX6_unitsFor : mT := (RX6, "unitsFor", "(I)I", 1, some .int, [])
theorem mk_X6_unitsFor : mOK mX6_unitsFor cX6_unitsFor 1 := ⟨gMem (i := 412) (by decide +kernel) (by rfl), gMem (i := 1) (by decide +kernel) (by rfl), by decide +kernel, by decide +kernel, by decide +kernel⟩
theorem ms_X6_unitsFor : Cond.static (mY mX6_unitsFor) ∈ gWds := gMem (i := 411) (by decide +kernel) (by rfl)
theorem ll_L_56 : lLk RL 56 mL_low := Or.inl (gMem (i := 174) (by decide +kernel) (by rfl))
theorem lw_L_61 : Cond.methodLink RL 61 (mY mL_does) ∈ gWds := gMem (i := 181) (by decide +kernel) (by rfl)
theorem ll_L_61 : lLk RL 61 mL_does := Or.inl (gMem (i := 181) (by decide +kernel) (by rfl))
theorem ll_L_65 : lLk RL 65 mX6_rounds := Or.inl (gMem (i := 517) (by decide +kernel) (by rfl))
theorem ll_L_68 : lLk RL 68 mX6_gold := Or.inl (gMem (i := 521) (by decide +kernel) (by rfl))
theorem ll_L_71 : lLk RL 71 mX6_health := Or.inl (gMem (i := 525) (by decide +kernel) (by rfl))
theorem ll_L_74 : lLk RL 74 mX6_streak := Or.inl (gMem (i := 529) (by decide +kernel) (by rfl))
theorem ll_L_50 : lLk RL 50 mX6_benchAt := Or.inl (gMem (i := 533) (by decide +kernel) (by rfl))
theorem ll_L_53 : lLk RL 53 mX6_boardAt := Or.inl (gMem (i := 542) (by decide +kernel) (by rfl))
theorem ll_L_77 : lLk RL 77 mX6_shopAt := Or.inl (gMem (i := 547) (by decide +kernel) (by rfl))
theorem ll_L_8 : lLk RL 8 mX6_tell := Or.inl (gMem (i := 188) (by decide +kernel) (by rfl))
theorem ll_L_14 : lLk RL 14 mX6_roll := Or.inl (gMem (i := 281) (by decide +kernel) (by rfl))
theorem ll_L_17 : lLk RL 17 mX6_toggleLock := Or.inl (gMem (i := 329) (by decide +kernel) (by rfl))
theorem ll_L_21 : lLk RL 21 mX6_buyLevel := Or.inl (gMem (i := 333) (by decide +kernel) (by rfl))
theorem ll_L_24 : lLk RL 24 mX6_buy := Or.inl (gMem (i := 339) (by decide +kernel) (by rfl))
theorem ll_L_28 : lLk RL 28 mX6_sell := Or.inl (gMem (i := 401) (by decide +kernel) (by rfl))
theorem ll_L_31 : lLk RL 31 mX6_toBoard := Or.inl (gMem (i := 421) (by decide +kernel) (by rfl))
theorem ll_L_34 : lLk RL 34 mX6_toBench := Or.inl (gMem (i := 426) (by decide +kernel) (by rfl))
theorem ll_L_37 : lLk RL 37 mX6_round := Or.inl (gMem (i := 430) (by decide +kernel) (by rfl))
theorem ll_L_99 : lLk RL 99 mX6_fight := Or.inl (gMem (i := 592) (by decide +kernel) (by rfl))
theorem ll_L_102 : lLk RL 102 mX6_fightByRecord := Or.inl (gMem (i := 596) (by decide +kernel) (by rfl))
theorem ll_L_80 : lLk RL 80 mL_board := Or.inl (gMem (i := 554) (by decide +kernel) (by rfl))
theorem ll_L_84 : lLk RL 84 mL_units := Or.inl (gMem (i := 557) (by decide +kernel) (by rfl))
theorem ll_L_87 : lLk RL 87 mL_bench := Or.inl (gMem (i := 560) (by decide +kernel) (by rfl))
theorem ll_L_90 : lLk RL 90 mX6_pool := Or.inl (gMem (i := 563) (by decide +kernel) (by rfl))
theorem ll_L_93 : lLk RL 93 mX6_out := Or.inl (gMem (i := 571) (by decide +kernel) (by rfl))
theorem ll_L_96 : lLk RL 96 mX6_blow := Or.inl (gMem (i := 584) (by decide +kernel) (by rfl))
theorem ll_L_105 : lLk RL 105 mX6_init := Or.inl (gMem (i := 18) (by decide +kernel) (by rfl))
theorem ll_L_106 : lLk RL 106 mL_cell := Or.inl (gMem (i := 171) (by decide +kernel) (by rfl))
theorem ll_L_110 : lLk RL 110 mL_act := Or.inl (gMem (i := 178) (by decide +kernel) (by rfl))
theorem ll_L_113 : lLk RL 113 mL_areAlike := Or.inl (gMem (i := 514) (by decide +kernel) (by rfl))
theorem ll_L_117 : lLk RL 117 mL_isHallSo := Or.inl (gMem (i := 551) (by decide +kernel) (by rfl))
theorem ll_L_121 : lLk RL 121 mL_isFoughtSo := Or.inl (gMem (i := 589) (by decide +kernel) (by rfl))
theorem ll_L_125 : lLk RL 125 mL_isMovedSo := Or.inl (gMem (i := 604) (by decide +kernel) (by rfl))
theorem ll_L_129 : lLk RL 129 mL_isSoldSo := Or.inl (gMem (i := 607) (by decide +kernel) (by rfl))
theorem fl_X0_32 : fLk RX0 32 0 4 RX0 TX0 5 := ⟨rfl, by decide, in_X0, Or.inl (gMem (i := 85) (by decide +kernel) (by rfl))⟩
theorem fl_X0_12 : fLk RX0 12 0 0 RX0 TX0 5 := ⟨rfl, by decide, in_X0, Or.inl (gMem (i := 81) (by decide +kernel) (by rfl))⟩
theorem fl_X0_18 : fLk RX0 18 0 1 RX0 TX0 5 := ⟨rfl, by decide, in_X0, Or.inl (gMem (i := 82) (by decide +kernel) (by rfl))⟩
theorem ll_X0_36 : lLk RX0 36 mX4_takeTurn := Or.inr ⟨"Gladehall", List.mem_of_getElem? (i := 472) (by decide +kernel)⟩
theorem ll_X0_40 : lLk RX0 40 mX4_firstLiving := Or.inr ⟨"Gladehall", List.mem_of_getElem? (i := 476) (by decide +kernel)⟩
theorem fl_X0_43 : fLk RX0 43 4 1 RX4 TX4 4 := ⟨rfl, by decide, in_X4, Or.inr ⟨"Gladehall", List.mem_of_getElem? (i := 69) (by decide +kernel)⟩⟩
theorem ll_X0_46 : lLk RX0 46 mX4_takeBlow := Or.inr ⟨"Gladehall", List.mem_of_getElem? (i := 480) (by decide +kernel)⟩
theorem fl_X0_21 : fLk RX0 21 0 2 RX0 TX0 5 := ⟨rfl, by decide, in_X0, Or.inl (gMem (i := 83) (by decide +kernel) (by rfl))⟩
theorem fl_X0_25 : fLk RX0 25 0 3 RX0 TX0 5 := ⟨rfl, by decide, in_X0, Or.inl (gMem (i := 84) (by decide +kernel) (by rfl))⟩
theorem lo_X0_3 : Cond.methodLink RX0 3 objectInit ∈ gWds := gMem (i := 60) (by decide +kernel) (by rfl)
theorem ll_X0_11 : lLk RX0 11 mX4_init := Or.inr ⟨"Gladehall", List.mem_of_getElem? (i := 63) (by decide +kernel)⟩
theorem ll_X0_28 : lLk RX0 28 mX4_muster := Or.inr ⟨"Gladehall", List.mem_of_getElem? (i := 450) (by decide +kernel)⟩
theorem ll_X0_50 : lLk RX0 50 mX4_living := Or.inr ⟨"Gladehall", List.mem_of_getElem? (i := 488) (by decide +kernel)⟩
theorem fl_X1_15 : fLk RX1 15 1 2 RX1 TX1 3 := ⟨rfl, by decide, in_X1, Or.inl (gMem (i := 46) (by decide +kernel) (by rfl))⟩
theorem fl_X1_9 : fLk RX1 9 1 0 RX1 TX1 3 := ⟨rfl, by decide, in_X1, Or.inl (gMem (i := 44) (by decide +kernel) (by rfl))⟩
theorem fl_X1_19 : fLk RX1 19 1 1 RX1 TX1 3 := ⟨rfl, by decide, in_X1, Or.inl (gMem (i := 45) (by decide +kernel) (by rfl))⟩
theorem lo_X1_3 : Cond.methodLink RX1 3 objectInit ∈ gWds := gMem (i := 43) (by decide +kernel) (by rfl)
theorem fl_X2_9 : fLk RX2 9 2 0 RX2 TX2 8 := ⟨rfl, by decide, in_X2, Or.inl (gMem (i := 123) (by decide +kernel) (by rfl))⟩
theorem lm_X2_37 : Cond.methodLink RX2 37 Lib.Math.min.name ∈ gWds := gMem (i := 418) (by decide +kernel) (by rfl)
theorem fl_X2_43 : fLk RX2 43 2 3 RX2 TX2 8 := ⟨rfl, by decide, in_X2, Or.inl (gMem (i := 129) (by decide +kernel) (by rfl))⟩
theorem ll_X2_46 : lLk RX2 46 mX2_addGold := Or.inl (gMem (i := 504) (by decide +kernel) (by rfl))
theorem lo_X2_3 : Cond.methodLink RX2 3 objectInit ∈ gWds := gMem (i := 101) (by decide +kernel) (by rfl)
theorem fl_X2_15 : fLk RX2 15 2 1 RX2 TX2 8 := ⟨rfl, by decide, in_X2, Or.inl (gMem (i := 125) (by decide +kernel) (by rfl))⟩
theorem fl_X2_18 : fLk RX2 18 2 2 RX2 TX2 8 := ⟨rfl, by decide, in_X2, Or.inl (gMem (i := 127) (by decide +kernel) (by rfl))⟩
theorem fl_X2_21 : fLk RX2 21 2 5 RX2 TX2 8 := ⟨rfl, by decide, in_X2, Or.inl (gMem (i := 132) (by decide +kernel) (by rfl))⟩
theorem fg_X2_21 : Cond.fieldLink RX2 21 (TX2 5).1 (TX2 5).2.1 (TX2 5).2.2.1 ∈ gWds := gMem (i := 132) (by decide +kernel) (by rfl)
theorem ll_X2_27 : lLk RX2 27 mX5_init := Or.inr ⟨"Gladehall", List.mem_of_getElem? (i := 104) (by decide +kernel)⟩
theorem fl_X2_30 : fLk RX2 30 2 6 RX2 TX2 8 := ⟨rfl, by decide, in_X2, Or.inl (gMem (i := 134) (by decide +kernel) (by rfl))⟩
theorem fg_X2_30 : Cond.fieldLink RX2 30 (TX2 6).1 (TX2 6).2.1 (TX2 6).2.2.1 ∈ gWds := gMem (i := 134) (by decide +kernel) (by rfl)
theorem fl_X2_34 : fLk RX2 34 2 7 RX2 TX2 8 := ⟨rfl, by decide, in_X2, Or.inl (gMem (i := 136) (by decide +kernel) (by rfl))⟩
theorem fg_X2_34 : Cond.fieldLink RX2 34 (TX2 7).1 (TX2 7).2.1 (TX2 7).2.2.1 ∈ gWds := gMem (i := 136) (by decide +kernel) (by rfl)
theorem ll_X2_57 : lLk RX2 57 mX5_countOf := Or.inr ⟨"Gladehall", List.mem_of_getElem? (i := 377) (by decide +kernel)⟩
theorem ll_X2_60 : lLk RX2 60 mX2_mergeThree := Or.inl (gMem (i := 381) (by decide +kernel) (by rfl))
theorem ll_X2_64 : lLk RX2 64 mX2_rowOfFirst := Or.inl (gMem (i := 385) (by decide +kernel) (by rfl))
theorem ll_X2_68 : lLk RX2 68 mX5_find := Or.inr ⟨"Gladehall", List.mem_of_getElem? (i := 389) (by decide +kernel)⟩
theorem fl_X2_71 : fLk RX2 71 5 1 RX5 TX5 3 := ⟨rfl, by decide, in_X5, Or.inr ⟨"Gladehall", List.mem_of_getElem? (i := 112) (by decide +kernel)⟩⟩
theorem ll_X2_74 : lLk RX2 74 mX5_removeAt := Or.inr ⟨"Gladehall", List.mem_of_getElem? (i := 393) (by decide +kernel)⟩
theorem ll_X2_53 : lLk RX2 53 mX2_mergeFirstThree := Or.inl (gMem (i := 373) (by decide +kernel) (by rfl))
theorem ll_X2_49 : lLk RX2 49 mX5_unitsHeld := Or.inr ⟨"Gladehall", List.mem_of_getElem? (i := 579) (by decide +kernel)⟩
theorem ll_X3_19 : lLk RX3 19 mX3_unitsUpTo := Or.inl (gMem (i := 322) (by decide +kernel) (by rfl))
theorem fl_X3_9 : fLk RX3 9 3 0 RX3 TX3 1 := ⟨rfl, by decide, in_X3, Or.inl (gMem (i := 32) (by decide +kernel) (by rfl))⟩
theorem lo_X3_3 : Cond.methodLink RX3 3 objectInit ∈ gWds := gMem (i := 31) (by decide +kernel) (by rfl)
theorem ll_X3_15 : lLk RX3 15 mX6_costOf := Or.inr ⟨"Gladehall", List.mem_of_getElem? (i := 326) (by decide +kernel)⟩
theorem fl_X4_30 : fLk RX4 30 4 2 RX4 TX4 4 := ⟨rfl, by decide, in_X4, Or.inl (gMem (i := 70) (by decide +kernel) (by rfl))⟩
theorem fl_X4_9 : fLk RX4 9 4 0 RX4 TX4 4 := ⟨rfl, by decide, in_X4, Or.inl (gMem (i := 67) (by decide +kernel) (by rfl))⟩
theorem lo_X4_3 : Cond.methodLink RX4 3 objectInit ∈ gWds := gMem (i := 66) (by decide +kernel) (by rfl)
theorem fl_X4_15 : fLk RX4 15 4 1 RX4 TX4 4 := ⟨rfl, by decide, in_X4, Or.inl (gMem (i := 68) (by decide +kernel) (by rfl))⟩
theorem fg_X4_15 : Cond.fieldLink RX4 15 (TX4 1).1 (TX4 1).2.1 (TX4 1).2.2.1 ∈ gWds := gMem (i := 68) (by decide +kernel) (by rfl)
theorem fl_X4_18 : fLk RX4 18 5 2 RX5 TX5 3 := ⟨rfl, by decide, in_X5, Or.inr ⟨"Gladehall", List.mem_of_getElem? (i := 113) (by decide +kernel)⟩⟩
theorem lm_X4_24 : Cond.methodLink RX4 24 Lib.Math.min.name ∈ gWds := gMem (i := 454) (by decide +kernel) (by rfl)
theorem fl_X4_31 : fLk RX4 31 4 3 RX4 TX4 4 := ⟨rfl, by decide, in_X4, Or.inl (gMem (i := 71) (by decide +kernel) (by rfl))⟩
theorem ll_X4_34 : lLk RX4 34 mX5_healthAt := Or.inr ⟨"Gladehall", List.mem_of_getElem? (i := 455) (by decide +kernel)⟩
theorem ll_X4_38 : lLk RX4 38 mX5_strengthAt := Or.inr ⟨"Gladehall", List.mem_of_getElem? (i := 460) (by decide +kernel)⟩
theorem fl_X5_18 : fLk RX5 18 5 2 RX5 TX5 3 := ⟨rfl, by decide, in_X5, Or.inl (gMem (i := 114) (by decide +kernel) (by rfl))⟩
theorem fl_X5_9 : fLk RX5 9 5 0 RX5 TX5 3 := ⟨rfl, by decide, in_X5, Or.inl (gMem (i := 108) (by decide +kernel) (by rfl))⟩
theorem fl_X5_15 : fLk RX5 15 5 1 RX5 TX5 3 := ⟨rfl, by decide, in_X5, Or.inl (gMem (i := 110) (by decide +kernel) (by rfl))⟩
theorem ll_X5_22 : lLk RX5 22 mX5_has := Or.inl (gMem (i := 397) (by decide +kernel) (by rfl))
theorem ll_X5_30 : lLk RX5 30 mX6_costOf := Or.inr ⟨"Gladehall", List.mem_of_getElem? (i := 459) (by decide +kernel)⟩
theorem lo_X5_3 : Cond.methodLink RX5 3 objectInit ∈ gWds := gMem (i := 107) (by decide +kernel) (by rfl)
theorem ll_X5_33 : lLk RX5 33 mX5_hasKind := Or.inl (gMem (i := 464) (by decide +kernel) (by rfl))
theorem ll_X5_26 : lLk RX5 26 mX6_unitsFor := Or.inr ⟨"Gladehall", List.mem_of_getElem? (i := 583) (by decide +kernel)⟩
theorem ll_X6_57 : lLk RX6 57 mX6_playerOf := Or.inl (gMem (i := 285) (by decide +kernel) (by rfl))
theorem xa_X6_186 : ∀ w ∈ (vx_atS RX6 186 "java/lang/IndexOutOfBoundsException" ["java/lang/RuntimeException", "java/lang/Exception"]).filter goodWord, w ∈ gWds := gFl (by decide +kernel)
theorem xb_X6_186 : ∀ w ∈ (vx_atS RX6 186 "java/lang/IndexOutOfBoundsException" ["java/lang/RuntimeException", "java/lang/Exception"]).filter (fun w => !goodWord w), w ∈ tables_1 ∧ gIsN w = true := by decide +kernel
theorem xa_X6_52 : ∀ w ∈ (vx_atS RX6 52 "java/lang/IllegalStateException" ["java/lang/RuntimeException", "java/lang/Exception"]).filter goodWord, w ∈ gWds := gFl (by decide +kernel)
theorem xb_X6_52 : ∀ w ∈ (vx_atS RX6 52 "java/lang/IllegalStateException" ["java/lang/RuntimeException", "java/lang/Exception"]).filter (fun w => !goodWord w), w ∈ tables_1 ∧ gIsN w = true := by decide +kernel
theorem xa_X6_41 : ∀ w ∈ (vx_atS RX6 41 "java/lang/IllegalArgumentException" ["java/lang/RuntimeException", "java/lang/Exception"]).filter goodWord, w ∈ gWds := gFl (by decide +kernel)
theorem xb_X6_41 : ∀ w ∈ (vx_atS RX6 41 "java/lang/IllegalArgumentException" ["java/lang/RuntimeException", "java/lang/Exception"]).filter (fun w => !goodWord w), w ∈ tables_1 ∧ gIsN w = true := by decide +kernel
theorem xl_X6_184 : xLk RX6 182 184 186 xIO "a bench has no such place" := ⟨by decide +kernel, gMem (i := 289) (by decide +kernel) (by rfl), gMem (i := 13) (by decide +kernel) (by rfl), by decide, List.mem_of_getElem? (i := 537) (by decide +kernel), xa_X6_186, xb_X6_186, by decide +kernel⟩
theorem fl_X6_98 : fLk RX6 98 2 6 RX2 TX2 8 := ⟨rfl, by decide, in_X2, Or.inr ⟨"Gladehall", List.mem_of_getElem? (i := 135) (by decide +kernel)⟩⟩
theorem ll_X6_187 : lLk RX6 187 mX5_unitAt := Or.inr ⟨"Gladehall", List.mem_of_getElem? (i := 538) (by decide +kernel)⟩
theorem fl_X6_135 : fLk RX6 135 2 7 RX2 TX2 8 := ⟨rfl, by decide, in_X2, Or.inr ⟨"Gladehall", List.mem_of_getElem? (i := 137) (by decide +kernel)⟩⟩
theorem ll_X6_112 : lLk RX6 112 mX6_requireUnit := Or.inl (gMem (i := 405) (by decide +kernel) (by rfl))
theorem ll_X6_192 : lLk RX6 192 mX5_strengthAt := Or.inr ⟨"Gladehall", List.mem_of_getElem? (i := 588) (by decide +kernel)⟩
theorem xl_X6_190 : xLk RX6 182 190 186 xIO "a board has no such place" := ⟨by decide +kernel, gMem (i := 289) (by decide +kernel) (by rfl), gMem (i := 13) (by decide +kernel) (by rfl), by decide, List.mem_of_getElem? (i := 546) (by decide +kernel), xa_X6_186, xb_X6_186, by decide +kernel⟩
theorem ll_X6_81 : lLk RX6 81 mX6_requireSlot := Or.inl (gMem (i := 343) (by decide +kernel) (by rfl))
theorem fl_X6_85 : fLk RX6 85 2 5 RX2 TX2 8 := ⟨rfl, by decide, in_X2, Or.inr ⟨"Gladehall", List.mem_of_getElem? (i := 133) (by decide +kernel)⟩⟩
theorem fl_X6_61 : fLk RX6 61 2 0 RX2 TX2 8 := ⟨rfl, by decide, in_X2, Or.inr ⟨"Gladehall", List.mem_of_getElem? (i := 124) (by decide +kernel)⟩⟩
theorem ll_X6_94 : lLk RX6 94 mX6_costOf := Or.inl (gMem (i := 363) (by decide +kernel) (by rfl))
theorem xl_X6_74 : xLk RX6 48 74 52 xIS "the player has too little gold" := ⟨by decide +kernel, gMem (i := 265) (by decide +kernel) (by rfl), gMem (i := 12) (by decide +kernel) (by rfl), by decide, List.mem_of_getElem? (i := 337) (by decide +kernel), xa_X6_52, xb_X6_52, by decide +kernel⟩
theorem ll_X6_102 : lLk RX6 102 mX5_append := Or.inr ⟨"Gladehall", List.mem_of_getElem? (i := 364) (by decide +kernel)⟩
theorem xl_X6_107 : xLk RX6 48 107 52 xIS "the bench has 6 units" := ⟨by decide +kernel, gMem (i := 265) (by decide +kernel) (by rfl), gMem (i := 12) (by decide +kernel) (by rfl), by decide, List.mem_of_getElem? (i := 368) (by decide +kernel), xa_X6_52, xb_X6_52, by decide +kernel⟩
theorem ll_X6_109 : lLk RX6 109 mX2_mergeThrees := Or.inr ⟨"Gladehall", List.mem_of_getElem? (i := 369) (by decide +kernel)⟩
theorem fl_X6_76 : fLk RX6 76 2 1 RX2 TX2 8 := ⟨rfl, by decide, in_X2, Or.inr ⟨"Gladehall", List.mem_of_getElem? (i := 126) (by decide +kernel)⟩⟩
theorem xl_X6_79 : xLk RX6 48 79 52 xIS "the player has the highest level" := ⟨by decide +kernel, gMem (i := 265) (by decide +kernel) (by rfl), gMem (i := 12) (by decide +kernel) (by rfl), by decide, List.mem_of_getElem? (i := 338) (by decide +kernel), xa_X6_52, xb_X6_52, by decide +kernel⟩
theorem ll_X6_164 : lLk RX6 164 mX6_musterSides := Or.inl (gMem (i := 441) (by decide +kernel) (by rfl))
theorem fl_X6_32 : fLk RX6 32 6 3 RX6 TX6 5 := ⟨rfl, by decide, in_X6, Or.inl (gMem (i := 158) (by decide +kernel) (by rfl))⟩
theorem ll_X6_167 : lLk RX6 167 mX0_fightOut := Or.inr ⟨"Gladehall", List.mem_of_getElem? (i := 468) (by decide +kernel)⟩
theorem ll_X6_170 : lLk RX6 170 mX0_result := Or.inr ⟨"Gladehall", List.mem_of_getElem? (i := 484) (by decide +kernel)⟩
theorem ll_X6_173 : lLk RX6 173 mX0_redo := Or.inr ⟨"Gladehall", List.mem_of_getElem? (i := 600) (by decide +kernel)⟩
theorem fl_X6_11 : fLk RX6 11 6 0 RX6 TX6 5 := ⟨rfl, by decide, in_X6, Or.inl (gMem (i := 155) (by decide +kernel) (by rfl))⟩
theorem ll_X6_221 : lLk RX6 221 mX2_win := Or.inr ⟨"Gladehall", List.mem_of_getElem? (i := 492) (by decide +kernel)⟩
theorem ll_X6_224 : lLk RX6 224 mX2_lose := Or.inr ⟨"Gladehall", List.mem_of_getElem? (i := 496) (by decide +kernel)⟩
theorem fl_X6_179 : fLk RX6 179 2 3 RX2 TX2 8 := ⟨rfl, by decide, in_X2, Or.inr ⟨"Gladehall", List.mem_of_getElem? (i := 130) (by decide +kernel)⟩⟩
theorem fl_X6_18 : fLk RX6 18 6 1 RX6 TX6 5 := ⟨rfl, by decide, in_X6, Or.inl (gMem (i := 156) (by decide +kernel) (by rfl))⟩
theorem ll_X6_128 : lLk RX6 128 mX3_putBack := Or.inr ⟨"Gladehall", List.mem_of_getElem? (i := 310) (by decide +kernel)⟩
theorem fl_X6_25 : fLk RX6 25 6 2 RX6 TX6 5 := ⟨rfl, by decide, in_X6, Or.inl (gMem (i := 157) (by decide +kernel) (by rfl))⟩
theorem ll_X6_227 : lLk RX6 227 mX1_take := Or.inr ⟨"Gladehall", List.mem_of_getElem? (i := 314) (by decide +kernel)⟩
theorem ll_X6_230 : lLk RX6 230 mX3_draw := Or.inr ⟨"Gladehall", List.mem_of_getElem? (i := 318) (by decide +kernel)⟩
theorem fl_X6_70 : fLk RX6 70 2 4 RX2 TX2 8 := ⟨rfl, by decide, in_X2, Or.inr ⟨"Gladehall", List.mem_of_getElem? (i := 131) (by decide +kernel)⟩⟩
theorem ll_X6_66 : lLk RX6 66 mX6_fillShop := Or.inl (gMem (i := 306) (by decide +kernel) (by rfl))
theorem fl_X6_176 : fLk RX6 176 2 2 RX2 TX2 8 := ⟨rfl, by decide, in_X2, Or.inr ⟨"Gladehall", List.mem_of_getElem? (i := 128) (by decide +kernel)⟩⟩
theorem lo_X6_1 : Cond.methodLink RX6 1 objectInit ∈ gWds := gMem (i := 21) (by decide +kernel) (by rfl)
theorem ll_X6_17 : lLk RX6 17 mX3_init := Or.inr ⟨"Gladehall", List.mem_of_getElem? (i := 28) (by decide +kernel)⟩
theorem ll_X6_24 : lLk RX6 24 mX1_init := Or.inr ⟨"Gladehall", List.mem_of_getElem? (i := 40) (by decide +kernel)⟩
theorem ll_X6_31 : lLk RX6 31 mX0_init := Or.inr ⟨"Gladehall", List.mem_of_getElem? (i := 57) (by decide +kernel)⟩
theorem ll_X6_36 : lLk RX6 36 mX2_init := Or.inr ⟨"Gladehall", List.mem_of_getElem? (i := 98) (by decide +kernel)⟩
theorem xl_X6_215 : xLk RX6 37 215 41 xIA "a player does not fight itself" := ⟨by decide +kernel, gMem (i := 192) (by decide +kernel) (by rfl), gMem (i := 11) (by decide +kernel) (by rfl), by decide, List.mem_of_getElem? (i := 445) (by decide +kernel), xa_X6_41, xb_X6_41, by decide +kernel⟩
theorem ll_X6_217 : lLk RX6 217 mX0_muster := Or.inr ⟨"Gladehall", List.mem_of_getElem? (i := 446) (by decide +kernel)⟩
theorem ll_X6_195 : lLk RX6 195 mX6_requireKind := Or.inl (gMem (i := 567) (by decide +kernel) (by rfl))
theorem ll_X6_201 : lLk RX6 201 mX2_unitsHeld := Or.inr ⟨"Gladehall", List.mem_of_getElem? (i := 575) (by decide +kernel)⟩
theorem xl_X6_204 : xLk RX6 182 204 186 xIO "there is no such player" := ⟨by decide +kernel, gMem (i := 289) (by decide +kernel) (by rfl), gMem (i := 13) (by decide +kernel) (by rfl), by decide, List.mem_of_getElem? (i := 298) (by decide +kernel), xa_X6_186, xb_X6_186, by decide +kernel⟩
theorem fl_X6_198 : fLk RX6 198 3 0 RX3 TX3 1 := ⟨rfl, by decide, in_X3, Or.inr ⟨"Gladehall", List.mem_of_getElem? (i := 33) (by decide +kernel)⟩⟩
theorem xl_X6_206 : xLk RX6 182 206 186 xIO "there is no such kind" := ⟨by decide +kernel, gMem (i := 289) (by decide +kernel) (by rfl), gMem (i := 13) (by decide +kernel) (by rfl), by decide, List.mem_of_getElem? (i := 570) (by decide +kernel), xa_X6_186, xb_X6_186, by decide +kernel⟩
theorem xl_X6_208 : xLk RX6 182 208 186 xIO "there is no such slot" := ⟨by decide +kernel, gMem (i := 289) (by decide +kernel) (by rfl), gMem (i := 13) (by decide +kernel) (by rfl), by decide, List.mem_of_getElem? (i := 346) (by decide +kernel), xa_X6_186, xb_X6_186, by decide +kernel⟩
theorem ll_X6_210 : lLk RX6 210 mX5_has := Or.inr ⟨"Gladehall", List.mem_of_getElem? (i := 408) (by decide +kernel)⟩
theorem xl_X6_213 : xLk RX6 182 213 186 xIO "there is no unit at this place" := ⟨by decide +kernel, gMem (i := 289) (by decide +kernel) (by rfl), gMem (i := 13) (by decide +kernel) (by rfl), by decide, List.mem_of_getElem? (i := 409) (by decide +kernel), xa_X6_186, xb_X6_186, by decide +kernel⟩
theorem xl_X6_64 : xLk RX6 48 64 52 xIS "the player has no gold" := ⟨by decide +kernel, gMem (i := 265) (by decide +kernel) (by rfl), gMem (i := 12) (by decide +kernel) (by rfl), by decide, List.mem_of_getElem? (i := 305) (by decide +kernel), xa_X6_52, xb_X6_52, by decide +kernel⟩
theorem fl_X6_143 : fLk RX6 143 6 4 RX6 TX6 5 := ⟨rfl, by decide, in_X6, Or.inl (gMem (i := 159) (by decide +kernel) (by rfl))⟩
theorem xl_X6_146 : xLk RX6 48 146 52 xIS "200 rounds were played" := ⟨by decide +kernel, gMem (i := 265) (by decide +kernel) (by rfl), gMem (i := 12) (by decide +kernel) (by rfl), by decide, List.mem_of_getElem? (i := 434) (by decide +kernel), xa_X6_52, xb_X6_52, by decide +kernel⟩
theorem ll_X6_151 : lLk RX6 151 mX6_fightPair := Or.inl (gMem (i := 437) (by decide +kernel) (by rfl))
theorem ll_X6_154 : lLk RX6 154 mX2_earn := Or.inr ⟨"Gladehall", List.mem_of_getElem? (i := 500) (by decide +kernel)⟩
theorem ll_X6_157 : lLk RX6 157 mX6_fillUnlockedShops := Or.inl (gMem (i := 505) (by decide +kernel) (by rfl))
theorem ll_X6_160 : lLk RX6 160 mX6_playersWithHealth := Or.inl (gMem (i := 509) (by decide +kernel) (by rfl))
theorem fl_X6_116 : fLk RX6 116 5 0 RX5 TX5 3 := ⟨rfl, by decide, in_X5, Or.inr ⟨"Gladehall", List.mem_of_getElem? (i := 109) (by decide +kernel)⟩⟩
theorem fl_X6_119 : fLk RX6 119 5 1 RX5 TX5 3 := ⟨rfl, by decide, in_X5, Or.inr ⟨"Gladehall", List.mem_of_getElem? (i := 111) (by decide +kernel)⟩⟩
theorem ll_X6_122 : lLk RX6 122 mX6_unitsFor := Or.inl (gMem (i := 410) (by decide +kernel) (by rfl))
theorem ll_X6_125 : lLk RX6 125 mX5_removeAt := Or.inr ⟨"Gladehall", List.mem_of_getElem? (i := 413) (by decide +kernel)⟩
theorem ll_X6_132 : lLk RX6 132 mX2_addGold := Or.inr ⟨"Gladehall", List.mem_of_getElem? (i := 414) (by decide +kernel)⟩
theorem xl_X6_39 : xLk RX6 37 39 41 xIA "the number is not from 0 to 1000" := ⟨by decide +kernel, gMem (i := 192) (by decide +kernel) (by rfl), gMem (i := 11) (by decide +kernel) (by rfl), by decide, List.mem_of_getElem? (i := 234) (by decide +kernel), xa_X6_41, xb_X6_41, by decide +kernel⟩
theorem ll_X6_44 : lLk RX6 44 mX1_append := Or.inr ⟨"Gladehall", List.mem_of_getElem? (i := 261) (by decide +kernel)⟩
theorem xl_X6_50 : xLk RX6 48 50 52 xIS "100 numbers are left" := ⟨by decide +kernel, gMem (i := 265) (by decide +kernel) (by rfl), gMem (i := 12) (by decide +kernel) (by rfl), by decide, List.mem_of_getElem? (i := 274) (by decide +kernel), xa_X6_52, xb_X6_52, by decide +kernel⟩
theorem fl_X6_53 : fLk RX6 53 1 2 RX1 TX1 3 := ⟨rfl, by decide, in_X1, Or.inr ⟨"Gladehall", List.mem_of_getElem? (i := 47) (by decide +kernel)⟩⟩
theorem fl_X6_138 : fLk RX6 138 5 2 RX5 TX5 3 := ⟨rfl, by decide, in_X5, Or.inr ⟨"Gladehall", List.mem_of_getElem? (i := 115) (by decide +kernel)⟩⟩
theorem xl_X6_141 : xLk RX6 48 141 52 xIS "the board has as many units as the level" := ⟨by decide +kernel, gMem (i := 265) (by decide +kernel) (by rfl), gMem (i := 12) (by decide +kernel) (by rfl), by decide, List.mem_of_getElem? (i := 425) (by decide +kernel), xa_X6_52, xb_X6_52, by decide +kernel⟩
theorem wd_oi : Cond.instanceMethod objectInit ∈ gWds := gMem (i := 22) (by decide +kernel) (by rfl)
theorem wd_oc : Cond.code objectInit ⟨#[0xb1]⟩ 1 none ∈ gWds := gMem (i := 23) (by decide +kernel) (by rfl)
theorem wd_ms : Cond.static Lib.Math.min.name ∈ gWds := gMem (i := 419) (by decide +kernel) (by rfl)
theorem wd_mi : Cond.initialized "java/lang/Math" ∈ gWds := gMem (i := 15) (by decide +kernel) (by rfl)
theorem wd_mc : Cond.code Lib.Math.min.name Lib.Math.min.code 2 (some .int) ∈ gWds := gMem (i := 420) (by decide +kernel) (by rfl)
theorem wd_aint : Cond.arrayClass .int ∈ gWds := gMem (i := 37) (by decide +kernel) (by rfl)
