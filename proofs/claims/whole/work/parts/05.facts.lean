/-! the words that the walks use: by program out of the claim's own tables (facts.py) -/
theorem gMem {w : Cond} {i : Nat} (h : tables_1[i]? = some w) (g : goodWord w = true) : w ∈ gWds := List.mem_filter.mpr ⟨gTb (List.mem_of_getElem? h), g⟩
theorem gSel {y : MethodName} {i : Nat} {n : Nat} (h : lw_privs[i]? = some (y, n)) : Cond.selects y.cls y y ∈ gWds := List.mem_filter.mpr ⟨gSl (List.mem_of_getElem? h), rfl⟩
theorem gFl {L : List Cond} (h : ∀ w ∈ L.filter goodWord, w ∈ lw_tbl) : ∀ w ∈ L.filter goodWord, w ∈ gWds := fun w hw => List.mem_filter.mpr ⟨h w hw, (List.mem_filter.mp hw).2⟩
theorem gIn {C : String} {T : u_T} {N : Nat} (h : ∀ k, k < N → u_lay C T k ∈ gWds) : ∀ w ∈ u_ws C T N, w ∈ gWds := by
  intro w hw
  obtain ⟨k, hk, rfl⟩ := List.mem_map.mp hw
  exact h k (List.mem_range.mp hk)
theorem in_X0 : ∀ w ∈ u_ws RX0 TX0 5, w ∈ gWds := gIn (fun k hk => match k, hk with
  | 0, _ => gMem (i := 87) (by decide +kernel) (by rfl)
  | 1, _ => gMem (i := 89) (by decide +kernel) (by rfl)
  | 2, _ => gMem (i := 91) (by decide +kernel) (by rfl)
  | 3, _ => gMem (i := 93) (by decide +kernel) (by rfl)
  | 4, _ => gMem (i := 95) (by decide +kernel) (by rfl)
  | n + 5, hk => absurd hk (by omega))
theorem ft_X0 : fTy RX0 TX0 5 tyX0 := ⟨tyX0_ok, nmX0⟩
theorem in_X1 : ∀ w ∈ u_ws RX1 TX1 3, w ∈ gWds := gIn (fun k hk => match k, hk with
  | 0, _ => gMem (i := 49) (by decide +kernel) (by rfl)
  | 1, _ => gMem (i := 51) (by decide +kernel) (by rfl)
  | 2, _ => gMem (i := 53) (by decide +kernel) (by rfl)
  | n + 3, hk => absurd hk (by omega))
theorem ft_X1 : fTy RX1 TX1 3 tyX1 := ⟨tyX1_ok, nmX1⟩
theorem in_X2 : ∀ w ∈ u_ws RX2 TX2 8, w ∈ gWds := gIn (fun k hk => match k, hk with
  | 0, _ => gMem (i := 139) (by decide +kernel) (by rfl)
  | 1, _ => gMem (i := 141) (by decide +kernel) (by rfl)
  | 2, _ => gMem (i := 143) (by decide +kernel) (by rfl)
  | 3, _ => gMem (i := 145) (by decide +kernel) (by rfl)
  | 4, _ => gMem (i := 147) (by decide +kernel) (by rfl)
  | 5, _ => gMem (i := 149) (by decide +kernel) (by rfl)
  | 6, _ => gMem (i := 151) (by decide +kernel) (by rfl)
  | 7, _ => gMem (i := 153) (by decide +kernel) (by rfl)
  | n + 8, hk => absurd hk (by omega))
theorem ft_X2 : fTy RX2 TX2 8 tyX2 := ⟨tyX2_ok, nmX2⟩
theorem in_X3 : ∀ w ∈ u_ws RX3 TX3 1, w ∈ gWds := gIn (fun k hk => match k, hk with
  | 0, _ => gMem (i := 35) (by decide +kernel) (by rfl)
  | n + 1, hk => absurd hk (by omega))
theorem ft_X3 : fTy RX3 TX3 1 tyX3 := ⟨tyX3_ok, nmX3⟩
theorem in_X4 : ∀ w ∈ u_ws RX4 TX4 4, w ∈ gWds := gIn (fun k hk => match k, hk with
  | 0, _ => gMem (i := 73) (by decide +kernel) (by rfl)
  | 1, _ => gMem (i := 75) (by decide +kernel) (by rfl)
  | 2, _ => gMem (i := 77) (by decide +kernel) (by rfl)
  | 3, _ => gMem (i := 79) (by decide +kernel) (by rfl)
  | n + 4, hk => absurd hk (by omega))
theorem ft_X4 : fTy RX4 TX4 4 tyX4 := ⟨tyX4_ok, nmX4⟩
theorem in_X5 : ∀ w ∈ u_ws RX5 TX5 3, w ∈ gWds := gIn (fun k hk => match k, hk with
  | 0, _ => gMem (i := 117) (by decide +kernel) (by rfl)
  | 1, _ => gMem (i := 119) (by decide +kernel) (by rfl)
  | 2, _ => gMem (i := 121) (by decide +kernel) (by rfl)
  | n + 3, hk => absurd hk (by omega))
theorem ft_X5 : fTy RX5 TX5 3 tyX5 := ⟨tyX5_ok, nmX5⟩
theorem in_X6 : ∀ w ∈ u_ws RX6 TX6 5, w ∈ gWds := gIn (fun k hk => match k, hk with
  | 0, _ => gMem (i := 161) (by decide +kernel) (by rfl)
  | 1, _ => gMem (i := 163) (by decide +kernel) (by rfl)
  | 2, _ => gMem (i := 165) (by decide +kernel) (by rfl)
  | 3, _ => gMem (i := 167) (by decide +kernel) (by rfl)
  | 4, _ => gMem (i := 169) (by decide +kernel) (by rfl)
  | n + 5, hk => absurd hk (by omega))
theorem ft_X6 : fTy RX6 TX6 5 tyX6 := ⟨tyX6_ok, nmX6⟩
theorem in_X7 : ∀ w ∈ u_ws RX7 TX7 19, w ∈ gWds := gIn (fun k hk => match k, hk with
  | 0, _ => gMem (i := 658) (by decide +kernel) (by rfl)
  | 1, _ => gMem (i := 660) (by decide +kernel) (by rfl)
  | 2, _ => gMem (i := 662) (by decide +kernel) (by rfl)
  | 3, _ => gMem (i := 664) (by decide +kernel) (by rfl)
  | 4, _ => gMem (i := 666) (by decide +kernel) (by rfl)
  | 5, _ => gMem (i := 668) (by decide +kernel) (by rfl)
  | 6, _ => gMem (i := 670) (by decide +kernel) (by rfl)
  | 7, _ => gMem (i := 672) (by decide +kernel) (by rfl)
  | 8, _ => gMem (i := 674) (by decide +kernel) (by rfl)
  | 9, _ => gMem (i := 676) (by decide +kernel) (by rfl)
  | 10, _ => gMem (i := 678) (by decide +kernel) (by rfl)
  | 11, _ => gMem (i := 680) (by decide +kernel) (by rfl)
  | 12, _ => gMem (i := 682) (by decide +kernel) (by rfl)
  | 13, _ => gMem (i := 684) (by decide +kernel) (by rfl)
  | 14, _ => gMem (i := 686) (by decide +kernel) (by rfl)
  | 15, _ => gMem (i := 688) (by decide +kernel) (by rfl)
  | 16, _ => gMem (i := 690) (by decide +kernel) (by rfl)
  | 17, _ => gMem (i := 692) (by decide +kernel) (by rfl)
  | 18, _ => gMem (i := 694) (by decide +kernel) (by rfl)
  | n + 19, hk => absurd hk (by omega))
theorem ft_X7 : fTy RX7 TX7 19 tyX7 := ⟨tyX7_ok, nmX7⟩
abbrev mL_benchAt : mT := (RL, "benchAt", "(LGladehall;II[J)I", 5, some .int, [(0, 10, 13, 20)])
theorem mk_L_benchAt : mOK mL_benchAt cL_benchAt 4 := ⟨gMem (i := 580) (by decide +kernel) (by rfl), gMem (i := 0) (by decide +kernel) (by rfl), by decide +kernel, by decide +kernel, by decide +kernel⟩
theorem ms_L_benchAt : Cond.static (mY mL_benchAt) ∈ gWds := gMem (i := 579) (by decide +kernel) (by rfl)
abbrev mL_blow : mT := (RL, "blow", "(LGladehall;II[J)I", 5, some .int, [(0, 10, 13, 20)])
theorem mk_L_blow : mOK mL_blow cL_blow 4 := ⟨gMem (i := 600) (by decide +kernel) (by rfl), gMem (i := 0) (by decide +kernel) (by rfl), by decide +kernel, by decide +kernel, by decide +kernel⟩
theorem ms_L_blow : Cond.static (mY mL_blow) ∈ gWds := gMem (i := 599) (by decide +kernel) (by rfl)
abbrev mL_boardAt : mT := (RL, "boardAt", "(LGladehall;II[J)I", 5, some .int, [(0, 10, 13, 20)])
theorem mk_L_boardAt : mOK mL_boardAt cL_boardAt 4 := ⟨gMem (i := 592) (by decide +kernel) (by rfl), gMem (i := 0) (by decide +kernel) (by rfl), by decide +kernel, by decide +kernel, by decide +kernel⟩
theorem ms_L_boardAt : Cond.static (mY mL_boardAt) ∈ gWds := gMem (i := 591) (by decide +kernel) (by rfl)
abbrev mL_buy : mT := (RL, "buy", "(LGladehall;II[J)I", 5, some .int, [(0, 10, 13, 20), (0, 10, 17, 33), (0, 10, 21, 15)])
theorem mk_L_buy : mOK mL_buy cL_buy 4 := ⟨gMem (i := 344) (by decide +kernel) (by rfl), gMem (i := 0) (by decide +kernel) (by rfl), by decide +kernel, by decide +kernel, by decide +kernel⟩
theorem ms_L_buy : Cond.static (mY mL_buy) ∈ gWds := gMem (i := 343) (by decide +kernel) (by rfl)
abbrev mL_buyLevel : mT := (RL, "buyLevel", "(LGladehall;I[J)I", 4, some .int, [(0, 9, 12, 20), (0, 9, 15, 15)])
theorem mk_L_buyLevel : mOK mL_buyLevel cL_buyLevel 3 := ⟨gMem (i := 335) (by decide +kernel) (by rfl), gMem (i := 0) (by decide +kernel) (by rfl), by decide +kernel, by decide +kernel, by decide +kernel⟩
theorem ms_L_buyLevel : Cond.static (mY mL_buyLevel) ∈ gWds := gMem (i := 334) (by decide +kernel) (by rfl)
abbrev mL_fight : mT := (RL, "fight", "(LGladehall;II[J)I", 5, some .int, [(0, 10, 13, 20), (0, 10, 17, 13)])
theorem mk_L_fight : mOK mL_fight cL_fight 4 := ⟨gMem (i := 534) (by decide +kernel) (by rfl), gMem (i := 0) (by decide +kernel) (by rfl), by decide +kernel, by decide +kernel, by decide +kernel⟩
theorem ms_L_fight : Cond.static (mY mL_fight) ∈ gWds := gMem (i := 533) (by decide +kernel) (by rfl)
abbrev mL_fightByRecord : mT := (RL, "fightByRecord", "(LGladehall;II[J)I", 5, some .int, [(0, 10, 13, 20), (0, 10, 17, 13)])
theorem mk_L_fightByRecord : mOK mL_fightByRecord cL_fightByRecord 4 := ⟨gMem (i := 541) (by decide +kernel) (by rfl), gMem (i := 0) (by decide +kernel) (by rfl), by decide +kernel, by decide +kernel, by decide +kernel⟩
theorem ms_L_fightByRecord : Cond.static (mY mL_fightByRecord) ∈ gWds := gMem (i := 540) (by decide +kernel) (by rfl)
abbrev mL_gold : mT := (RL, "gold", "(LGladehall;I[J)I", 4, some .int, [(0, 9, 12, 20)])
theorem mk_L_gold : mOK mL_gold cL_gold 3 := ⟨gMem (i := 552) (by decide +kernel) (by rfl), gMem (i := 0) (by decide +kernel) (by rfl), by decide +kernel, by decide +kernel, by decide +kernel⟩
theorem ms_L_gold : Cond.static (mY mL_gold) ∈ gWds := gMem (i := 551) (by decide +kernel) (by rfl)
abbrev mL_health : mT := (RL, "health", "(LGladehall;I[J)I", 4, some .int, [(0, 9, 12, 20)])
theorem mk_L_health : mOK mL_health cL_health 3 := ⟨gMem (i := 559) (by decide +kernel) (by rfl), gMem (i := 0) (by decide +kernel) (by rfl), by decide +kernel, by decide +kernel, by decide +kernel⟩
theorem ms_L_health : Cond.static (mY mL_health) ∈ gWds := gMem (i := 558) (by decide +kernel) (by rfl)
abbrev mL_law : mT := (RL, "law", "([I)Z", 7, some .boolean, [])
abbrev mL_out : mT := (RL, "out", "(LGladehall;I[J)I", 4, some .int, [(0, 9, 12, 20)])
theorem mk_L_out : mOK mL_out cL_out 3 := ⟨gMem (i := 619) (by decide +kernel) (by rfl), gMem (i := 0) (by decide +kernel) (by rfl), by decide +kernel, by decide +kernel, by decide +kernel⟩
theorem ms_L_out : Cond.static (mY mL_out) ∈ gWds := gMem (i := 618) (by decide +kernel) (by rfl)
abbrev mL_pool : mT := (RL, "pool", "(LGladehall;I[J)I", 4, some .int, [(0, 9, 12, 20)])
theorem mk_L_pool : mOK mL_pool cL_pool 3 := ⟨gMem (i := 608) (by decide +kernel) (by rfl), gMem (i := 0) (by decide +kernel) (by rfl), by decide +kernel, by decide +kernel, by decide +kernel⟩
theorem ms_L_pool : Cond.static (mY mL_pool) ∈ gWds := gMem (i := 607) (by decide +kernel) (by rfl)
abbrev mL_roll : mT := (RL, "roll", "(LGladehall;I[J)I", 4, some .int, [(0, 9, 12, 20), (0, 9, 15, 15)])
theorem mk_L_roll : mOK mL_roll cL_roll 3 := ⟨gMem (i := 276) (by decide +kernel) (by rfl), gMem (i := 0) (by decide +kernel) (by rfl), by decide +kernel, by decide +kernel, by decide +kernel⟩
theorem ms_L_roll : Cond.static (mY mL_roll) ∈ gWds := gMem (i := 275) (by decide +kernel) (by rfl)
abbrev mL_round : mT := (RL, "round", "(LGladehall;[J)I", 3, some .int, [(0, 8, 11, 15)])
theorem mk_L_round : mOK mL_round cL_round 2 := ⟨gMem (i := 448) (by decide +kernel) (by rfl), gMem (i := 0) (by decide +kernel) (by rfl), by decide +kernel, by decide +kernel, by decide +kernel⟩
theorem ms_L_round : Cond.static (mY mL_round) ∈ gWds := gMem (i := 447) (by decide +kernel) (by rfl)
abbrev mL_sell : mT := (RL, "sell", "(LGladehall;II[J)I", 5, some .int, [(0, 10, 13, 20)])
theorem mk_L_sell : mOK mL_sell cL_sell 4 := ⟨gMem (i := 410) (by decide +kernel) (by rfl), gMem (i := 0) (by decide +kernel) (by rfl), by decide +kernel, by decide +kernel, by decide +kernel⟩
theorem ms_L_sell : Cond.static (mY mL_sell) ∈ gWds := gMem (i := 409) (by decide +kernel) (by rfl)
abbrev mL_shopAt : mT := (RL, "shopAt", "(LGladehall;II[J)I", 5, some .int, [(0, 10, 13, 20)])
theorem mk_L_shopAt : mOK mL_shopAt cL_shopAt 4 := ⟨gMem (i := 573) (by decide +kernel) (by rfl), gMem (i := 0) (by decide +kernel) (by rfl), by decide +kernel, by decide +kernel, by decide +kernel⟩
theorem ms_L_shopAt : Cond.static (mY mL_shopAt) ∈ gWds := gMem (i := 572) (by decide +kernel) (by rfl)
abbrev mL_streak : mT := (RL, "streak", "(LGladehall;I[J)I", 4, some .int, [(0, 9, 12, 20)])
theorem mk_L_streak : mOK mL_streak cL_streak 3 := ⟨gMem (i := 566) (by decide +kernel) (by rfl), gMem (i := 0) (by decide +kernel) (by rfl), by decide +kernel, by decide +kernel, by decide +kernel⟩
theorem ms_L_streak : Cond.static (mY mL_streak) ∈ gWds := gMem (i := 565) (by decide +kernel) (by rfl)
abbrev mL_tell : mT := (RL, "tell", "(LGladehall;I[J)I", 4, some .int, [(0, 9, 12, 13), (0, 9, 15, 15)])
theorem mk_L_tell : mOK mL_tell cL_tell 3 := ⟨gMem (i := 178) (by decide +kernel) (by rfl), gMem (i := 0) (by decide +kernel) (by rfl), by decide +kernel, by decide +kernel, by decide +kernel⟩
theorem ms_L_tell : Cond.static (mY mL_tell) ∈ gWds := gMem (i := 177) (by decide +kernel) (by rfl)
abbrev mL_toBench : mT := (RL, "toBench", "(LGladehall;II[J)I", 5, some .int, [(0, 10, 13, 20), (0, 10, 17, 15)])
theorem mk_L_toBench : mOK mL_toBench cL_toBench 4 := ⟨gMem (i := 441) (by decide +kernel) (by rfl), gMem (i := 0) (by decide +kernel) (by rfl), by decide +kernel, by decide +kernel, by decide +kernel⟩
theorem ms_L_toBench : Cond.static (mY mL_toBench) ∈ gWds := gMem (i := 440) (by decide +kernel) (by rfl)
abbrev mL_toBoard : mT := (RL, "toBoard", "(LGladehall;II[J)I", 5, some .int, [(0, 10, 13, 20), (0, 10, 17, 15)])
theorem mk_L_toBoard : mOK mL_toBoard cL_toBoard 4 := ⟨gMem (i := 433) (by decide +kernel) (by rfl), gMem (i := 0) (by decide +kernel) (by rfl), by decide +kernel, by decide +kernel, by decide +kernel⟩
theorem ms_L_toBoard : Cond.static (mY mL_toBoard) ∈ gWds := gMem (i := 432) (by decide +kernel) (by rfl)
abbrev mL_toggleLock : mT := (RL, "toggleLock", "(LGladehall;I[J)I", 4, some .int, [(0, 16, 19, 20)])
theorem mk_L_toggleLock : mOK mL_toggleLock cL_toggleLock 3 := ⟨gMem (i := 328) (by decide +kernel) (by rfl), gMem (i := 0) (by decide +kernel) (by rfl), by decide +kernel, by decide +kernel, by decide +kernel⟩
theorem ms_L_toggleLock : Cond.static (mY mL_toggleLock) ∈ gWds := gMem (i := 327) (by decide +kernel) (by rfl)
abbrev mX0_fightOut : mT := (RX0, "fightOut", "()V", 6, none, [])
theorem mk_X0_fightOut : mOK mX0_fightOut cX0_fightOut 0 := ⟨gMem (i := 490) (by decide +kernel) (by rfl), gMem (i := 4) (by decide +kernel) (by rfl), by decide +kernel, by decide +kernel, by decide +kernel⟩
theorem mi_X0_fightOut : mInst mX0_fightOut := ⟨gMem (i := 489) (by decide +kernel) (by rfl), gSel (y := mY mX0_fightOut) (i := 25) (n := 5) (by decide +kernel)⟩
abbrev mX0_init : mT := (RX0, "<init>", "()V", 1, none, [])
theorem mk_X0_init : mOK mX0_init cX0_init 0 := ⟨gMem (i := 60) (by decide +kernel) (by rfl), gMem (i := 4) (by decide +kernel) (by rfl), by decide +kernel, by decide +kernel, by decide +kernel⟩
theorem mi_X0_init : Cond.instanceMethod (mY mX0_init) ∈ gWds := gMem (i := 59) (by decide +kernel) (by rfl)
abbrev mX0_muster : mT := (RX0, "muster", "(LGladehall$UnitRow;LGladehall$UnitRow;)V", 3, none, [])
theorem mk_X0_muster : mOK mX0_muster cX0_muster 2 := ⟨gMem (i := 468) (by decide +kernel) (by rfl), gMem (i := 4) (by decide +kernel) (by rfl), by decide +kernel, by decide +kernel, by decide +kernel⟩
theorem mi_X0_muster : mInst mX0_muster := ⟨gMem (i := 467) (by decide +kernel) (by rfl), gSel (y := mY mX0_muster) (i := 20) (n := 5) (by decide +kernel)⟩
abbrev mX0_redo : mT := (RX0, "redo", "()V", 3, none, [])
theorem mk_X0_redo : mOK mX0_redo cX0_redo 0 := ⟨gMem (i := 549) (by decide +kernel) (by rfl), gMem (i := 4) (by decide +kernel) (by rfl), by decide +kernel, by decide +kernel, by decide +kernel⟩
theorem mi_X0_redo : mInst mX0_redo := ⟨gMem (i := 548) (by decide +kernel) (by rfl), gSel (y := mY mX0_redo) (i := 36) (n := 5) (by decide +kernel)⟩
abbrev mX0_result : mT := (RX0, "result", "()I", 1, some .int, [])
theorem mk_X0_result : mOK mX0_result cX0_result 0 := ⟨gMem (i := 506) (by decide +kernel) (by rfl), gMem (i := 4) (by decide +kernel) (by rfl), by decide +kernel, by decide +kernel, by decide +kernel⟩
theorem mi_X0_result : mInst mX0_result := ⟨gMem (i := 505) (by decide +kernel) (by rfl), gSel (y := mY mX0_result) (i := 29) (n := 5) (by decide +kernel)⟩
abbrev mX1_append : mT := (RX1, "append", "(I)Z", 2, some .boolean, [])
theorem mk_X1_append : mOK mX1_append cX1_append 1 := ⟨gMem (i := 257) (by decide +kernel) (by rfl), gMem (i := 3) (by decide +kernel) (by rfl), by decide +kernel, by decide +kernel, by decide +kernel⟩
theorem mi_X1_append : mInst mX1_append := ⟨gMem (i := 256) (by decide +kernel) (by rfl), gSel (y := mY mX1_append) (i := 1) (n := 3) (by decide +kernel)⟩
abbrev mX1_init : mT := (RX1, "<init>", "()V", 1, none, [])
theorem mk_X1_init : mOK mX1_init cX1_init 0 := ⟨gMem (i := 43) (by decide +kernel) (by rfl), gMem (i := 3) (by decide +kernel) (by rfl), by decide +kernel, by decide +kernel, by decide +kernel⟩
theorem mi_X1_init : Cond.instanceMethod (mY mX1_init) ∈ gWds := gMem (i := 42) (by decide +kernel) (by rfl)
abbrev mX1_take : mT := (RX1, "take", "()I", 2, some .int, [])
theorem mk_X1_take : mOK mX1_take cX1_take 0 := ⟨gMem (i := 314) (by decide +kernel) (by rfl), gMem (i := 3) (by decide +kernel) (by rfl), by decide +kernel, by decide +kernel, by decide +kernel⟩
theorem mi_X1_take : mInst mX1_take := ⟨gMem (i := 313) (by decide +kernel) (by rfl), gSel (y := mY mX1_take) (i := 5) (n := 3) (by decide +kernel)⟩
abbrev mX2_addGold : mT := (RX2, "addGold", "(I)V", 2, none, [])
theorem mk_X2_addGold : mOK mX2_addGold cX2_addGold 1 := ⟨gMem (i := 427) (by decide +kernel) (by rfl), gMem (i := 6) (by decide +kernel) (by rfl), by decide +kernel, by decide +kernel, by decide +kernel⟩
theorem mi_X2_addGold : mInst mX2_addGold := ⟨gMem (i := 426) (by decide +kernel) (by rfl), gSel (y := mY mX2_addGold) (i := 17) (n := 8) (by decide +kernel)⟩
abbrev mX2_earn : mT := (RX2, "earn", "()V", 3, none, [])
theorem mk_X2_earn : mOK mX2_earn cX2_earn 0 := ⟨gMem (i := 522) (by decide +kernel) (by rfl), gMem (i := 6) (by decide +kernel) (by rfl), by decide +kernel, by decide +kernel, by decide +kernel⟩
theorem mi_X2_earn : mInst mX2_earn := ⟨gMem (i := 521) (by decide +kernel) (by rfl), gSel (y := mY mX2_earn) (i := 33) (n := 8) (by decide +kernel)⟩
abbrev mX2_init : mT := (RX2, "<init>", "()V", 2, none, [])
theorem mk_X2_init : mOK mX2_init cX2_init 0 := ⟨gMem (i := 101) (by decide +kernel) (by rfl), gMem (i := 6) (by decide +kernel) (by rfl), by decide +kernel, by decide +kernel, by decide +kernel⟩
theorem mi_X2_init : Cond.instanceMethod (mY mX2_init) ∈ gWds := gMem (i := 100) (by decide +kernel) (by rfl)
abbrev mX2_lose : mT := (RX2, "lose", "(I)V", 2, none, [])
theorem mk_X2_lose : mOK mX2_lose cX2_lose 1 := ⟨gMem (i := 518) (by decide +kernel) (by rfl), gMem (i := 6) (by decide +kernel) (by rfl), by decide +kernel, by decide +kernel, by decide +kernel⟩
theorem mi_X2_lose : mInst mX2_lose := ⟨gMem (i := 517) (by decide +kernel) (by rfl), gSel (y := mY mX2_lose) (i := 32) (n := 8) (by decide +kernel)⟩
abbrev mX2_mergeFirstThree : mT := (RX2, "mergeFirstThree", "()Z", 3, some .boolean, [])
theorem mk_X2_mergeFirstThree : mOK mX2_mergeFirstThree cX2_mergeFirstThree 0 := ⟨gMem (i := 383) (by decide +kernel) (by rfl), gMem (i := 6) (by decide +kernel) (by rfl), by decide +kernel, by decide +kernel, by decide +kernel⟩
theorem mi_X2_mergeFirstThree : mInst mX2_mergeFirstThree := ⟨gMem (i := 382) (by decide +kernel) (by rfl), gSel (y := mY mX2_mergeFirstThree) (i := 10) (n := 8) (by decide +kernel)⟩
abbrev mX2_mergeThree : mT := (RX2, "mergeThree", "(II)V", 7, none, [])
theorem mk_X2_mergeThree : mOK mX2_mergeThree cX2_mergeThree 2 := ⟨gMem (i := 391) (by decide +kernel) (by rfl), gMem (i := 6) (by decide +kernel) (by rfl), by decide +kernel, by decide +kernel, by decide +kernel⟩
theorem mi_X2_mergeThree : mInst mX2_mergeThree := ⟨gMem (i := 390) (by decide +kernel) (by rfl), gSel (y := mY mX2_mergeThree) (i := 12) (n := 8) (by decide +kernel)⟩
abbrev mX2_mergeThrees : mT := (RX2, "mergeThrees", "()V", 2, none, [])
theorem mk_X2_mergeThrees : mOK mX2_mergeThrees cX2_mergeThrees 0 := ⟨gMem (i := 379) (by decide +kernel) (by rfl), gMem (i := 6) (by decide +kernel) (by rfl), by decide +kernel, by decide +kernel, by decide +kernel⟩
theorem mi_X2_mergeThrees : mInst mX2_mergeThrees := ⟨gMem (i := 378) (by decide +kernel) (by rfl), gSel (y := mY mX2_mergeThrees) (i := 9) (n := 8) (by decide +kernel)⟩
abbrev mX2_rowOfFirst : mT := (RX2, "rowOfFirst", "(II)LGladehall$UnitRow;", 3, some (.object "Gladehall$UnitRow"), [])
theorem mk_X2_rowOfFirst : mOK mX2_rowOfFirst cX2_rowOfFirst 2 := ⟨gMem (i := 395) (by decide +kernel) (by rfl), gMem (i := 6) (by decide +kernel) (by rfl), by decide +kernel, by decide +kernel, by decide +kernel⟩
theorem mi_X2_rowOfFirst : mInst mX2_rowOfFirst := ⟨gMem (i := 394) (by decide +kernel) (by rfl), gSel (y := mY mX2_rowOfFirst) (i := 13) (n := 8) (by decide +kernel)⟩
abbrev mX2_unitsHeld : mT := (RX2, "unitsHeld", "(I)I", 4, some .int, [])
theorem mk_X2_unitsHeld : mOK mX2_unitsHeld cX2_unitsHeld 1 := ⟨gMem (i := 627) (by decide +kernel) (by rfl), gMem (i := 6) (by decide +kernel) (by rfl), by decide +kernel, by decide +kernel, by decide +kernel⟩
theorem mi_X2_unitsHeld : mInst mX2_unitsHeld := ⟨gMem (i := 626) (by decide +kernel) (by rfl), gSel (y := mY mX2_unitsHeld) (i := 38) (n := 8) (by decide +kernel)⟩
abbrev mX2_win : mT := (RX2, "win", "()V", 1, none, [])
theorem mk_X2_win : mOK mX2_win cX2_win 0 := ⟨gMem (i := 514) (by decide +kernel) (by rfl), gMem (i := 6) (by decide +kernel) (by rfl), by decide +kernel, by decide +kernel, by decide +kernel⟩
theorem mi_X2_win : mInst mX2_win := ⟨gMem (i := 513) (by decide +kernel) (by rfl), gSel (y := mY mX2_win) (i := 31) (n := 8) (by decide +kernel)⟩
abbrev mX3_draw : mT := (RX3, "draw", "(II)I", 6, some .int, [])
theorem mk_X3_draw : mOK mX3_draw cX3_draw 2 := ⟨gMem (i := 318) (by decide +kernel) (by rfl), gMem (i := 2) (by decide +kernel) (by rfl), by decide +kernel, by decide +kernel, by decide +kernel⟩
theorem mi_X3_draw : mInst mX3_draw := ⟨gMem (i := 317) (by decide +kernel) (by rfl), gSel (y := mY mX3_draw) (i := 6) (n := 1) (by decide +kernel)⟩
abbrev mX3_init : mT := (RX3, "<init>", "()V", 2, none, [])
theorem mk_X3_init : mOK mX3_init cX3_init 0 := ⟨gMem (i := 31) (by decide +kernel) (by rfl), gMem (i := 2) (by decide +kernel) (by rfl), by decide +kernel, by decide +kernel, by decide +kernel⟩
theorem mi_X3_init : Cond.instanceMethod (mY mX3_init) ∈ gWds := gMem (i := 30) (by decide +kernel) (by rfl)
abbrev mX3_putBack : mT := (RX3, "putBack", "(II)V", 3, none, [])
theorem mk_X3_putBack : mOK mX3_putBack cX3_putBack 2 := ⟨gMem (i := 310) (by decide +kernel) (by rfl), gMem (i := 2) (by decide +kernel) (by rfl), by decide +kernel, by decide +kernel, by decide +kernel⟩
theorem mi_X3_putBack : mInst mX3_putBack := ⟨gMem (i := 309) (by decide +kernel) (by rfl), gSel (y := mY mX3_putBack) (i := 4) (n := 1) (by decide +kernel)⟩
abbrev mX3_unitsUpTo : mT := (RX3, "unitsUpTo", "(I)I", 4, some .int, [])
theorem mk_X3_unitsUpTo : mOK mX3_unitsUpTo cX3_unitsUpTo 1 := ⟨gMem (i := 322) (by decide +kernel) (by rfl), gMem (i := 2) (by decide +kernel) (by rfl), by decide +kernel, by decide +kernel, by decide +kernel⟩
theorem mi_X3_unitsUpTo : mInst mX3_unitsUpTo := ⟨gMem (i := 321) (by decide +kernel) (by rfl), gSel (y := mY mX3_unitsUpTo) (i := 7) (n := 1) (by decide +kernel)⟩
abbrev mX4_firstLiving : mT := (RX4, "firstLiving", "()I", 2, some .int, [])
theorem mk_X4_firstLiving : mOK mX4_firstLiving cX4_firstLiving 0 := ⟨gMem (i := 498) (by decide +kernel) (by rfl), gMem (i := 5) (by decide +kernel) (by rfl), by decide +kernel, by decide +kernel, by decide +kernel⟩
theorem mi_X4_firstLiving : mInst mX4_firstLiving := ⟨gMem (i := 497) (by decide +kernel) (by rfl), gSel (y := mY mX4_firstLiving) (i := 27) (n := 4) (by decide +kernel)⟩
abbrev mX4_init : mT := (RX4, "<init>", "()V", 1, none, [])
theorem mk_X4_init : mOK mX4_init cX4_init 0 := ⟨gMem (i := 66) (by decide +kernel) (by rfl), gMem (i := 5) (by decide +kernel) (by rfl), by decide +kernel, by decide +kernel, by decide +kernel⟩
theorem mi_X4_init : Cond.instanceMethod (mY mX4_init) ∈ gWds := gMem (i := 65) (by decide +kernel) (by rfl)
abbrev mX4_living : mT := (RX4, "living", "()I", 3, some .int, [])
theorem mk_X4_living : mOK mX4_living cX4_living 0 := ⟨gMem (i := 510) (by decide +kernel) (by rfl), gMem (i := 5) (by decide +kernel) (by rfl), by decide +kernel, by decide +kernel, by decide +kernel⟩
theorem mi_X4_living : mInst mX4_living := ⟨gMem (i := 509) (by decide +kernel) (by rfl), gSel (y := mY mX4_living) (i := 30) (n := 4) (by decide +kernel)⟩
abbrev mX4_muster : mT := (RX4, "muster", "(LGladehall$UnitRow;)V", 3, none, [])
theorem mk_X4_muster : mOK mX4_muster cX4_muster 1 := ⟨gMem (i := 472) (by decide +kernel) (by rfl), gMem (i := 5) (by decide +kernel) (by rfl), by decide +kernel, by decide +kernel, by decide +kernel⟩
theorem mi_X4_muster : mInst mX4_muster := ⟨gMem (i := 471) (by decide +kernel) (by rfl), gSel (y := mY mX4_muster) (i := 21) (n := 4) (by decide +kernel)⟩
abbrev mX4_takeBlow : mT := (RX4, "takeBlow", "(II)V", 3, none, [])
theorem mk_X4_takeBlow : mOK mX4_takeBlow cX4_takeBlow 2 := ⟨gMem (i := 502) (by decide +kernel) (by rfl), gMem (i := 5) (by decide +kernel) (by rfl), by decide +kernel, by decide +kernel, by decide +kernel⟩
theorem mi_X4_takeBlow : mInst mX4_takeBlow := ⟨gMem (i := 501) (by decide +kernel) (by rfl), gSel (y := mY mX4_takeBlow) (i := 28) (n := 4) (by decide +kernel)⟩
abbrev mX4_takeTurn : mT := (RX4, "takeTurn", "()I", 3, some .int, [])
theorem mk_X4_takeTurn : mOK mX4_takeTurn cX4_takeTurn 0 := ⟨gMem (i := 494) (by decide +kernel) (by rfl), gMem (i := 5) (by decide +kernel) (by rfl), by decide +kernel, by decide +kernel, by decide +kernel⟩
theorem mi_X4_takeTurn : mInst mX4_takeTurn := ⟨gMem (i := 493) (by decide +kernel) (by rfl), gSel (y := mY mX4_takeTurn) (i := 26) (n := 4) (by decide +kernel)⟩
abbrev mX5_append : mT := (RX5, "append", "(II)Z", 3, some .boolean, [])
theorem mk_X5_append : mOK mX5_append cX5_append 2 := ⟨gMem (i := 374) (by decide +kernel) (by rfl), gMem (i := 7) (by decide +kernel) (by rfl), by decide +kernel, by decide +kernel, by decide +kernel⟩
theorem mi_X5_append : mInst mX5_append := ⟨gMem (i := 373) (by decide +kernel) (by rfl), gSel (y := mY mX5_append) (i := 8) (n := 3) (by decide +kernel)⟩
abbrev mX5_countOf : mT := (RX5, "countOf", "(II)I", 5, some .int, [])
theorem mk_X5_countOf : mOK mX5_countOf cX5_countOf 2 := ⟨gMem (i := 387) (by decide +kernel) (by rfl), gMem (i := 7) (by decide +kernel) (by rfl), by decide +kernel, by decide +kernel, by decide +kernel⟩
theorem mi_X5_countOf : mInst mX5_countOf := ⟨gMem (i := 386) (by decide +kernel) (by rfl), gSel (y := mY mX5_countOf) (i := 11) (n := 3) (by decide +kernel)⟩
abbrev mX5_find : mT := (RX5, "find", "(II)I", 4, some .int, [])
theorem mk_X5_find : mOK mX5_find cX5_find 2 := ⟨gMem (i := 399) (by decide +kernel) (by rfl), gMem (i := 7) (by decide +kernel) (by rfl), by decide +kernel, by decide +kernel, by decide +kernel⟩
theorem mi_X5_find : mInst mX5_find := ⟨gMem (i := 398) (by decide +kernel) (by rfl), gSel (y := mY mX5_find) (i := 14) (n := 3) (by decide +kernel)⟩
abbrev mX5_has : mT := (RX5, "has", "(I)Z", 2, some .boolean, [])
theorem mk_X5_has : mOK mX5_has cX5_has 1 := ⟨gMem (i := 407) (by decide +kernel) (by rfl), gMem (i := 7) (by decide +kernel) (by rfl), by decide +kernel, by decide +kernel, by decide +kernel⟩
theorem mi_X5_has : mInst mX5_has := ⟨gMem (i := 406) (by decide +kernel) (by rfl), gSel (y := mY mX5_has) (i := 16) (n := 3) (by decide +kernel)⟩
abbrev mX5_hasKind : mT := (RX5, "hasKind", "(I)Z", 3, some .boolean, [])
theorem mk_X5_hasKind : mOK mX5_hasKind cX5_hasKind 1 := ⟨gMem (i := 486) (by decide +kernel) (by rfl), gMem (i := 7) (by decide +kernel) (by rfl), by decide +kernel, by decide +kernel, by decide +kernel⟩
theorem mi_X5_hasKind : mInst mX5_hasKind := ⟨gMem (i := 485) (by decide +kernel) (by rfl), gSel (y := mY mX5_hasKind) (i := 24) (n := 3) (by decide +kernel)⟩
abbrev mX5_healthAt : mT := (RX5, "healthAt", "(I)I", 2, some .int, [])
theorem mk_X5_healthAt : mOK mX5_healthAt cX5_healthAt 1 := ⟨gMem (i := 477) (by decide +kernel) (by rfl), gMem (i := 7) (by decide +kernel) (by rfl), by decide +kernel, by decide +kernel, by decide +kernel⟩
theorem mi_X5_healthAt : mInst mX5_healthAt := ⟨gMem (i := 476) (by decide +kernel) (by rfl), gSel (y := mY mX5_healthAt) (i := 22) (n := 3) (by decide +kernel)⟩
abbrev mX5_init : mT := (RX5, "<init>", "(I)V", 2, none, [])
theorem mk_X5_init : mOK mX5_init cX5_init 1 := ⟨gMem (i := 107) (by decide +kernel) (by rfl), gMem (i := 7) (by decide +kernel) (by rfl), by decide +kernel, by decide +kernel, by decide +kernel⟩
theorem mi_X5_init : Cond.instanceMethod (mY mX5_init) ∈ gWds := gMem (i := 106) (by decide +kernel) (by rfl)
abbrev mX5_removeAt : mT := (RX5, "removeAt", "(I)V", 3, none, [])
theorem mk_X5_removeAt : mOK mX5_removeAt cX5_removeAt 1 := ⟨gMem (i := 403) (by decide +kernel) (by rfl), gMem (i := 7) (by decide +kernel) (by rfl), by decide +kernel, by decide +kernel, by decide +kernel⟩
theorem mi_X5_removeAt : mInst mX5_removeAt := ⟨gMem (i := 402) (by decide +kernel) (by rfl), gSel (y := mY mX5_removeAt) (i := 15) (n := 3) (by decide +kernel)⟩
abbrev mX5_strengthAt : mT := (RX5, "strengthAt", "(I)I", 5, some .int, [])
theorem mk_X5_strengthAt : mOK mX5_strengthAt cX5_strengthAt 1 := ⟨gMem (i := 482) (by decide +kernel) (by rfl), gMem (i := 7) (by decide +kernel) (by rfl), by decide +kernel, by decide +kernel, by decide +kernel⟩
theorem mi_X5_strengthAt : mInst mX5_strengthAt := ⟨gMem (i := 481) (by decide +kernel) (by rfl), gSel (y := mY mX5_strengthAt) (i := 23) (n := 3) (by decide +kernel)⟩
abbrev mX5_unitAt : mT := (RX5, "unitAt", "(I)I", 2, some .int, [])
theorem mk_X5_unitAt : mOK mX5_unitAt cX5_unitAt 1 := ⟨gMem (i := 589) (by decide +kernel) (by rfl), gMem (i := 7) (by decide +kernel) (by rfl), by decide +kernel, by decide +kernel, by decide +kernel⟩
theorem mi_X5_unitAt : mInst mX5_unitAt := ⟨gMem (i := 588) (by decide +kernel) (by rfl), gSel (y := mY mX5_unitAt) (i := 37) (n := 3) (by decide +kernel)⟩
abbrev mX5_unitsHeld : mT := (RX5, "unitsHeld", "(I)I", 4, some .int, [])
theorem mk_X5_unitsHeld : mOK mX5_unitsHeld cX5_unitsHeld 1 := ⟨gMem (i := 631) (by decide +kernel) (by rfl), gMem (i := 7) (by decide +kernel) (by rfl), by decide +kernel, by decide +kernel, by decide +kernel⟩
theorem mi_X5_unitsHeld : mInst mX5_unitsHeld := ⟨gMem (i := 630) (by decide +kernel) (by rfl), gSel (y := mY mX5_unitsHeld) (i := 39) (n := 3) (by decide +kernel)⟩
abbrev mX6_benchAt : mT := (RX6, "benchAt", "(II)I", 4, some .int, [])
theorem mk_X6_benchAt : mOK mX6_benchAt cX6_benchAt 2 := ⟨gMem (i := 584) (by decide +kernel) (by rfl), gMem (i := 1) (by decide +kernel) (by rfl), by decide +kernel, by decide +kernel, by decide +kernel⟩
theorem mi_X6_benchAt : mInst mX6_benchAt := ⟨gMem (i := 582) (by decide +kernel) (by rfl), gMem (i := 583) (by decide +kernel) (by rfl)⟩
abbrev mX6_blow : mT := (RX6, "blow", "(II)I", 4, some .int, [])
theorem mk_X6_blow : mOK mX6_blow cX6_blow 2 := ⟨gMem (i := 604) (by decide +kernel) (by rfl), gMem (i := 1) (by decide +kernel) (by rfl), by decide +kernel, by decide +kernel, by decide +kernel⟩
theorem mi_X6_blow : mInst mX6_blow := ⟨gMem (i := 602) (by decide +kernel) (by rfl), gMem (i := 603) (by decide +kernel) (by rfl)⟩
abbrev mX6_boardAt : mT := (RX6, "boardAt", "(II)I", 4, some .int, [])
theorem mk_X6_boardAt : mOK mX6_boardAt cX6_boardAt 2 := ⟨gMem (i := 596) (by decide +kernel) (by rfl), gMem (i := 1) (by decide +kernel) (by rfl), by decide +kernel, by decide +kernel, by decide +kernel⟩
theorem mi_X6_boardAt : mInst mX6_boardAt := ⟨gMem (i := 594) (by decide +kernel) (by rfl), gMem (i := 595) (by decide +kernel) (by rfl)⟩
abbrev mX6_buy : mT := (RX6, "buy", "(II)I", 5, some .int, [])
theorem mk_X6_buy : mOK mX6_buy cX6_buy 2 := ⟨gMem (i := 349) (by decide +kernel) (by rfl), gMem (i := 1) (by decide +kernel) (by rfl), by decide +kernel, by decide +kernel, by decide +kernel⟩
theorem mi_X6_buy : mInst mX6_buy := ⟨gMem (i := 347) (by decide +kernel) (by rfl), gMem (i := 348) (by decide +kernel) (by rfl)⟩
abbrev mX6_buyLevel : mT := (RX6, "buyLevel", "(I)I", 3, some .int, [])
theorem mk_X6_buyLevel : mOK mX6_buyLevel cX6_buyLevel 1 := ⟨gMem (i := 339) (by decide +kernel) (by rfl), gMem (i := 1) (by decide +kernel) (by rfl), by decide +kernel, by decide +kernel, by decide +kernel⟩
theorem mi_X6_buyLevel : mInst mX6_buyLevel := ⟨gMem (i := 337) (by decide +kernel) (by rfl), gMem (i := 338) (by decide +kernel) (by rfl)⟩
abbrev mX6_costOf : mT := (RX6, "costOf", "(I)I", 1, some .int, [])
theorem mk_X6_costOf : mOK mX6_costOf cX6_costOf 1 := ⟨gMem (i := 325) (by decide +kernel) (by rfl), gMem (i := 1) (by decide +kernel) (by rfl), by decide +kernel, by decide +kernel, by decide +kernel⟩
theorem ms_X6_costOf : Cond.static (mY mX6_costOf) ∈ gWds := gMem (i := 324) (by decide +kernel) (by rfl)
abbrev mX6_fight : mT := (RX6, "fight", "(II)I", 3, some .int, [])
theorem mk_X6_fight : mOK mX6_fight cX6_fight 2 := ⟨gMem (i := 538) (by decide +kernel) (by rfl), gMem (i := 1) (by decide +kernel) (by rfl), by decide +kernel, by decide +kernel, by decide +kernel⟩
theorem mi_X6_fight : mInst mX6_fight := ⟨gMem (i := 536) (by decide +kernel) (by rfl), gMem (i := 537) (by decide +kernel) (by rfl)⟩
abbrev mX6_fightByRecord : mT := (RX6, "fightByRecord", "(II)I", 3, some .int, [])
theorem mk_X6_fightByRecord : mOK mX6_fightByRecord cX6_fightByRecord 2 := ⟨gMem (i := 545) (by decide +kernel) (by rfl), gMem (i := 1) (by decide +kernel) (by rfl), by decide +kernel, by decide +kernel, by decide +kernel⟩
theorem mi_X6_fightByRecord : mInst mX6_fightByRecord := ⟨gMem (i := 543) (by decide +kernel) (by rfl), gMem (i := 544) (by decide +kernel) (by rfl)⟩
abbrev mX6_fightPair : mT := (RX6, "fightPair", "(II)V", 4, none, [])
theorem mk_X6_fightPair : mOK mX6_fightPair cX6_fightPair 2 := ⟨gMem (i := 459) (by decide +kernel) (by rfl), gMem (i := 1) (by decide +kernel) (by rfl), by decide +kernel, by decide +kernel, by decide +kernel⟩
theorem mi_X6_fightPair : mInst mX6_fightPair := ⟨gMem (i := 458) (by decide +kernel) (by rfl), gSel (y := mY mX6_fightPair) (i := 18) (n := 5) (by decide +kernel)⟩
abbrev mX6_fillShop : mT := (RX6, "fillShop", "(LGladehall$Player;)V", 3, none, [])
theorem mk_X6_fillShop : mOK mX6_fillShop cX6_fillShop 1 := ⟨gMem (i := 306) (by decide +kernel) (by rfl), gMem (i := 1) (by decide +kernel) (by rfl), by decide +kernel, by decide +kernel, by decide +kernel⟩
theorem mi_X6_fillShop : mInst mX6_fillShop := ⟨gMem (i := 305) (by decide +kernel) (by rfl), gSel (y := mY mX6_fillShop) (i := 3) (n := 5) (by decide +kernel)⟩
abbrev mX6_fillUnlockedShops : mT := (RX6, "fillUnlockedShops", "()V", 3, none, [])
theorem mk_X6_fillUnlockedShops : mOK mX6_fillUnlockedShops cX6_fillUnlockedShops 0 := ⟨gMem (i := 527) (by decide +kernel) (by rfl), gMem (i := 1) (by decide +kernel) (by rfl), by decide +kernel, by decide +kernel, by decide +kernel⟩
theorem mi_X6_fillUnlockedShops : mInst mX6_fillUnlockedShops := ⟨gMem (i := 526) (by decide +kernel) (by rfl), gSel (y := mY mX6_fillUnlockedShops) (i := 34) (n := 5) (by decide +kernel)⟩
abbrev mX6_gold : mT := (RX6, "gold", "(I)I", 2, some .int, [])
theorem mk_X6_gold : mOK mX6_gold cX6_gold 1 := ⟨gMem (i := 556) (by decide +kernel) (by rfl), gMem (i := 1) (by decide +kernel) (by rfl), by decide +kernel, by decide +kernel, by decide +kernel⟩
theorem mi_X6_gold : mInst mX6_gold := ⟨gMem (i := 554) (by decide +kernel) (by rfl), gMem (i := 555) (by decide +kernel) (by rfl)⟩
abbrev mX6_health : mT := (RX6, "health", "(I)I", 2, some .int, [])
theorem mk_X6_health : mOK mX6_health cX6_health 1 := ⟨gMem (i := 563) (by decide +kernel) (by rfl), gMem (i := 1) (by decide +kernel) (by rfl), by decide +kernel, by decide +kernel, by decide +kernel⟩
theorem mi_X6_health : mInst mX6_health := ⟨gMem (i := 561) (by decide +kernel) (by rfl), gMem (i := 562) (by decide +kernel) (by rfl)⟩
abbrev mX6_init : mT := (RX6, "<init>", "()V", 2, none, [])
theorem mk_X6_init : mOK mX6_init cX6_init 0 := ⟨gMem (i := 21) (by decide +kernel) (by rfl), gMem (i := 1) (by decide +kernel) (by rfl), by decide +kernel, by decide +kernel, by decide +kernel⟩
theorem mi_X6_init : Cond.instanceMethod (mY mX6_init) ∈ gWds := gMem (i := 20) (by decide +kernel) (by rfl)
abbrev mX6_musterSides : mT := (RX6, "musterSides", "(II)V", 5, none, [])
theorem mk_X6_musterSides : mOK mX6_musterSides cX6_musterSides 2 := ⟨gMem (i := 463) (by decide +kernel) (by rfl), gMem (i := 1) (by decide +kernel) (by rfl), by decide +kernel, by decide +kernel, by decide +kernel⟩
theorem mi_X6_musterSides : mInst mX6_musterSides := ⟨gMem (i := 462) (by decide +kernel) (by rfl), gSel (y := mY mX6_musterSides) (i := 19) (n := 5) (by decide +kernel)⟩
abbrev mX6_out : mT := (RX6, "out", "(I)I", 4, some .int, [])
theorem mk_X6_out : mOK mX6_out cX6_out 1 := ⟨gMem (i := 623) (by decide +kernel) (by rfl), gMem (i := 1) (by decide +kernel) (by rfl), by decide +kernel, by decide +kernel, by decide +kernel⟩
theorem mi_X6_out : mInst mX6_out := ⟨gMem (i := 621) (by decide +kernel) (by rfl), gMem (i := 622) (by decide +kernel) (by rfl)⟩
abbrev mX6_playerOf : mT := (RX6, "playerOf", "(I)LGladehall$Player;", 2, some (.object "Gladehall$Player"), [])
theorem mk_X6_playerOf : mOK mX6_playerOf cX6_playerOf 1 := ⟨gMem (i := 285) (by decide +kernel) (by rfl), gMem (i := 1) (by decide +kernel) (by rfl), by decide +kernel, by decide +kernel, by decide +kernel⟩
theorem mi_X6_playerOf : mInst mX6_playerOf := ⟨gMem (i := 284) (by decide +kernel) (by rfl), gSel (y := mY mX6_playerOf) (i := 2) (n := 5) (by decide +kernel)⟩
abbrev mX6_playersWithHealth : mT := (RX6, "playersWithHealth", "()I", 3, some .int, [])
theorem mk_X6_playersWithHealth : mOK mX6_playersWithHealth cX6_playersWithHealth 0 := ⟨gMem (i := 531) (by decide +kernel) (by rfl), gMem (i := 1) (by decide +kernel) (by rfl), by decide +kernel, by decide +kernel, by decide +kernel⟩
theorem mi_X6_playersWithHealth : mInst mX6_playersWithHealth := ⟨gMem (i := 530) (by decide +kernel) (by rfl), gSel (y := mY mX6_playersWithHealth) (i := 35) (n := 5) (by decide +kernel)⟩
abbrev mX6_pool : mT := (RX6, "pool", "(I)I", 2, some .int, [])
theorem mk_X6_pool : mOK mX6_pool cX6_pool 1 := ⟨gMem (i := 612) (by decide +kernel) (by rfl), gMem (i := 1) (by decide +kernel) (by rfl), by decide +kernel, by decide +kernel, by decide +kernel⟩
theorem mi_X6_pool : mInst mX6_pool := ⟨gMem (i := 610) (by decide +kernel) (by rfl), gMem (i := 611) (by decide +kernel) (by rfl)⟩
abbrev mX6_requireKind : mT := (RX6, "requireKind", "(I)V", 1, none, [])
theorem mk_X6_requireKind : mOK mX6_requireKind cX6_requireKind 1 := ⟨gMem (i := 615) (by decide +kernel) (by rfl), gMem (i := 1) (by decide +kernel) (by rfl), by decide +kernel, by decide +kernel, by decide +kernel⟩
theorem ms_X6_requireKind : Cond.static (mY mX6_requireKind) ∈ gWds := gMem (i := 614) (by decide +kernel) (by rfl)
abbrev mX6_requireSlot : mT := (RX6, "requireSlot", "(I)V", 1, none, [])
theorem mk_X6_requireSlot : mOK mX6_requireSlot cX6_requireSlot 1 := ⟨gMem (i := 352) (by decide +kernel) (by rfl), gMem (i := 1) (by decide +kernel) (by rfl), by decide +kernel, by decide +kernel, by decide +kernel⟩
theorem ms_X6_requireSlot : Cond.static (mY mX6_requireSlot) ∈ gWds := gMem (i := 351) (by decide +kernel) (by rfl)
abbrev mX6_requireUnit : mT := (RX6, "requireUnit", "(LGladehall$UnitRow;I)V", 2, none, [])
theorem mk_X6_requireUnit : mOK mX6_requireUnit cX6_requireUnit 2 := ⟨gMem (i := 417) (by decide +kernel) (by rfl), gMem (i := 1) (by decide +kernel) (by rfl), by decide +kernel, by decide +kernel, by decide +kernel⟩
theorem ms_X6_requireUnit : Cond.static (mY mX6_requireUnit) ∈ gWds := gMem (i := 416) (by decide +kernel) (by rfl)
abbrev mX6_roll : mT := (RX6, "roll", "(I)I", 3, some .int, [])
theorem mk_X6_roll : mOK mX6_roll cX6_roll 1 := ⟨gMem (i := 281) (by decide +kernel) (by rfl), gMem (i := 1) (by decide +kernel) (by rfl), by decide +kernel, by decide +kernel, by decide +kernel⟩
theorem mi_X6_roll : mInst mX6_roll := ⟨gMem (i := 279) (by decide +kernel) (by rfl), gMem (i := 280) (by decide +kernel) (by rfl)⟩
abbrev mX6_round : mT := (RX6, "round", "()I", 3, some .int, [])
theorem mk_X6_round : mOK mX6_round cX6_round 0 := ⟨gMem (i := 452) (by decide +kernel) (by rfl), gMem (i := 1) (by decide +kernel) (by rfl), by decide +kernel, by decide +kernel, by decide +kernel⟩
theorem mi_X6_round : mInst mX6_round := ⟨gMem (i := 450) (by decide +kernel) (by rfl), gMem (i := 451) (by decide +kernel) (by rfl)⟩
abbrev mX6_rounds : mT := (RX6, "rounds", "()I", 1, some .int, [])
theorem mk_X6_rounds : mOK mX6_rounds cX6_rounds 0 := ⟨gMem (i := 175) (by decide +kernel) (by rfl), gMem (i := 1) (by decide +kernel) (by rfl), by decide +kernel, by decide +kernel, by decide +kernel⟩
theorem mi_X6_rounds : mInst mX6_rounds := ⟨gMem (i := 173) (by decide +kernel) (by rfl), gMem (i := 174) (by decide +kernel) (by rfl)⟩
abbrev mX6_sell : mT := (RX6, "sell", "(II)I", 6, some .int, [])
theorem mk_X6_sell : mOK mX6_sell cX6_sell 2 := ⟨gMem (i := 414) (by decide +kernel) (by rfl), gMem (i := 1) (by decide +kernel) (by rfl), by decide +kernel, by decide +kernel, by decide +kernel⟩
theorem mi_X6_sell : mInst mX6_sell := ⟨gMem (i := 412) (by decide +kernel) (by rfl), gMem (i := 413) (by decide +kernel) (by rfl)⟩
abbrev mX6_shopAt : mT := (RX6, "shopAt", "(II)I", 4, some .int, [])
theorem mk_X6_shopAt : mOK mX6_shopAt cX6_shopAt 2 := ⟨gMem (i := 577) (by decide +kernel) (by rfl), gMem (i := 1) (by decide +kernel) (by rfl), by decide +kernel, by decide +kernel, by decide +kernel⟩
theorem mi_X6_shopAt : mInst mX6_shopAt := ⟨gMem (i := 575) (by decide +kernel) (by rfl), gMem (i := 576) (by decide +kernel) (by rfl)⟩
abbrev mX6_streak : mT := (RX6, "streak", "(I)I", 2, some .int, [])
theorem mk_X6_streak : mOK mX6_streak cX6_streak 1 := ⟨gMem (i := 570) (by decide +kernel) (by rfl), gMem (i := 1) (by decide +kernel) (by rfl), by decide +kernel, by decide +kernel, by decide +kernel⟩
theorem mi_X6_streak : mInst mX6_streak := ⟨gMem (i := 568) (by decide +kernel) (by rfl), gMem (i := 569) (by decide +kernel) (by rfl)⟩
abbrev mX6_tell : mT := (RX6, "tell", "(I)I", 2, some .int, [])
theorem mk_X6_tell : mOK mX6_tell cX6_tell 1 := ⟨gMem (i := 184) (by decide +kernel) (by rfl), gMem (i := 1) (by decide +kernel) (by rfl), by decide +kernel, by decide +kernel, by decide +kernel⟩
theorem mi_X6_tell : mInst mX6_tell := ⟨gMem (i := 182) (by decide +kernel) (by rfl), gMem (i := 183) (by decide +kernel) (by rfl)⟩
abbrev mX6_toBench : mT := (RX6, "toBench", "(II)I", 4, some .int, [])
theorem mk_X6_toBench : mOK mX6_toBench cX6_toBench 2 := ⟨gMem (i := 445) (by decide +kernel) (by rfl), gMem (i := 1) (by decide +kernel) (by rfl), by decide +kernel, by decide +kernel, by decide +kernel⟩
theorem mi_X6_toBench : mInst mX6_toBench := ⟨gMem (i := 443) (by decide +kernel) (by rfl), gMem (i := 444) (by decide +kernel) (by rfl)⟩
abbrev mX6_toBoard : mT := (RX6, "toBoard", "(II)I", 4, some .int, [])
theorem mk_X6_toBoard : mOK mX6_toBoard cX6_toBoard 2 := ⟨gMem (i := 437) (by decide +kernel) (by rfl), gMem (i := 1) (by decide +kernel) (by rfl), by decide +kernel, by decide +kernel, by decide +kernel⟩
theorem mi_X6_toBoard : mInst mX6_toBoard := ⟨gMem (i := 435) (by decide +kernel) (by rfl), gMem (i := 436) (by decide +kernel) (by rfl)⟩
abbrev mX6_toggleLock : mT := (RX6, "toggleLock", "(I)Z", 3, some .boolean, [])
theorem mk_X6_toggleLock : mOK mX6_toggleLock cX6_toggleLock 1 := ⟨gMem (i := 332) (by decide +kernel) (by rfl), gMem (i := 1) (by decide +kernel) (by rfl), by decide +kernel, by decide +kernel, by decide +kernel⟩
theorem mi_X6_toggleLock : mInst mX6_toggleLock := ⟨gMem (i := 330) (by decide +kernel) (by rfl), gMem (i := 331) (by decide +kernel) (by rfl)⟩
abbrev mX6_unitsFor : mT := (RX6, "unitsFor", "(I)I", 1, some .int, [])
theorem mk_X6_unitsFor : mOK mX6_unitsFor cX6_unitsFor 1 := ⟨gMem (i := 422) (by decide +kernel) (by rfl), gMem (i := 1) (by decide +kernel) (by rfl), by decide +kernel, by decide +kernel, by decide +kernel⟩
theorem ms_X6_unitsFor : Cond.static (mY mX6_unitsFor) ∈ gWds := gMem (i := 421) (by decide +kernel) (by rfl)
abbrev mX7_alike : mT := (RX7, "alike", "(II)I", 5, some .int, [])
theorem mk_X7_alike : mOK mX7_alike cX7_alike 2 := ⟨gMem (i := 761) (by decide +kernel) (by rfl), gMem (i := 8) (by decide +kernel) (by rfl), by decide +kernel, by decide +kernel, by decide +kernel⟩
theorem mi_X7_alike : mInst mX7_alike := ⟨gMem (i := 760) (by decide +kernel) (by rfl), gSel (y := mY mX7_alike) (i := 46) (n := 19) (by decide +kernel)⟩
abbrev mX7_benchAt : mT := (RX7, "benchAt", "(II)I", 3, some .int, [])
theorem mk_X7_benchAt : mOK mX7_benchAt cX7_benchAt 2 := ⟨gMem (i := 878) (by decide +kernel) (by rfl), gMem (i := 8) (by decide +kernel) (by rfl), by decide +kernel, by decide +kernel, by decide +kernel⟩
theorem mi_X7_benchAt : mInst mX7_benchAt := ⟨gMem (i := 876) (by decide +kernel) (by rfl), gMem (i := 877) (by decide +kernel) (by rfl)⟩
abbrev mX7_blow : mT := (RX7, "blow", "(II)I", 3, some .int, [])
theorem mk_X7_blow : mOK mX7_blow cX7_blow 2 := ⟨gMem (i := 886) (by decide +kernel) (by rfl), gMem (i := 8) (by decide +kernel) (by rfl), by decide +kernel, by decide +kernel, by decide +kernel⟩
theorem mi_X7_blow : mInst mX7_blow := ⟨gMem (i := 884) (by decide +kernel) (by rfl), gMem (i := 885) (by decide +kernel) (by rfl)⟩
abbrev mX7_blowOf : mT := (RX7, "blowOf", "(II)I", 8, some .int, [])
theorem mk_X7_blowOf : mOK mX7_blowOf cX7_blowOf 2 := ⟨gMem (i := 835) (by decide +kernel) (by rfl), gMem (i := 8) (by decide +kernel) (by rfl), by decide +kernel, by decide +kernel, by decide +kernel⟩
theorem mi_X7_blowOf : mInst mX7_blowOf := ⟨gMem (i := 834) (by decide +kernel) (by rfl), gSel (y := mY mX7_blowOf) (i := 59) (n := 19) (by decide +kernel)⟩
abbrev mX7_blows : mT := (RX7, "blows", "(II)V", 4, none, [])
theorem mk_X7_blows : mOK mX7_blows cX7_blows 2 := ⟨gMem (i := 831) (by decide +kernel) (by rfl), gMem (i := 8) (by decide +kernel) (by rfl), by decide +kernel, by decide +kernel, by decide +kernel⟩
theorem mi_X7_blows : mInst mX7_blows := ⟨gMem (i := 830) (by decide +kernel) (by rfl), gSel (y := mY mX7_blows) (i := 58) (n := 19) (by decide +kernel)⟩
abbrev mX7_boardAt : mT := (RX7, "boardAt", "(II)I", 3, some .int, [])
theorem mk_X7_boardAt : mOK mX7_boardAt cX7_boardAt 2 := ⟨gMem (i := 882) (by decide +kernel) (by rfl), gMem (i := 8) (by decide +kernel) (by rfl), by decide +kernel, by decide +kernel, by decide +kernel⟩
theorem mi_X7_boardAt : mInst mX7_boardAt := ⟨gMem (i := 880) (by decide +kernel) (by rfl), gMem (i := 881) (by decide +kernel) (by rfl)⟩
abbrev mX7_buy : mT := (RX7, "buy", "(II)I", 4, some .int, [])
theorem mk_X7_buy : mOK mX7_buy cX7_buy 2 := ⟨gMem (i := 746) (by decide +kernel) (by rfl), gMem (i := 8) (by decide +kernel) (by rfl), by decide +kernel, by decide +kernel, by decide +kernel⟩
theorem mi_X7_buy : mInst mX7_buy := ⟨gMem (i := 744) (by decide +kernel) (by rfl), gMem (i := 745) (by decide +kernel) (by rfl)⟩
abbrev mX7_buyLevel : mT := (RX7, "buyLevel", "(I)I", 2, some .int, [])
theorem mk_X7_buyLevel : mOK mX7_buyLevel cX7_buyLevel 1 := ⟨gMem (i := 742) (by decide +kernel) (by rfl), gMem (i := 8) (by decide +kernel) (by rfl), by decide +kernel, by decide +kernel, by decide +kernel⟩
theorem mi_X7_buyLevel : mInst mX7_buyLevel := ⟨gMem (i := 740) (by decide +kernel) (by rfl), gMem (i := 741) (by decide +kernel) (by rfl)⟩
abbrev mX7_cost : mT := (RX7, "cost", "(I)I", 1, some .int, [])
theorem mk_X7_cost : mOK mX7_cost cX7_cost 1 := ⟨gMem (i := 734) (by decide +kernel) (by rfl), gMem (i := 8) (by decide +kernel) (by rfl), by decide +kernel, by decide +kernel, by decide +kernel⟩
theorem ms_X7_cost : Cond.static (mY mX7_cost) ∈ gWds := gMem (i := 733) (by decide +kernel) (by rfl)
abbrev mX7_errorOfBuy : mT := (RX7, "errorOfBuy", "(II)I", 4, some .int, [])
theorem mk_X7_errorOfBuy : mOK mX7_errorOfBuy cX7_errorOfBuy 2 := ⟨gMem (i := 750) (by decide +kernel) (by rfl), gMem (i := 8) (by decide +kernel) (by rfl), by decide +kernel, by decide +kernel, by decide +kernel⟩
theorem mi_X7_errorOfBuy : mInst mX7_errorOfBuy := ⟨gMem (i := 749) (by decide +kernel) (by rfl), gSel (y := mY mX7_errorOfBuy) (i := 44) (n := 19) (by decide +kernel)⟩
abbrev mX7_fight : mT := (RX7, "fight", "(II)I", 3, some .int, [])
theorem mk_X7_fight : mOK mX7_fight cX7_fight 2 := ⟨gMem (i := 850) (by decide +kernel) (by rfl), gMem (i := 8) (by decide +kernel) (by rfl), by decide +kernel, by decide +kernel, by decide +kernel⟩
theorem mi_X7_fight : mInst mX7_fight := ⟨gMem (i := 848) (by decide +kernel) (by rfl), gMem (i := 849) (by decide +kernel) (by rfl)⟩
abbrev mX7_fightByRecord : mT := (RX7, "fightByRecord", "(II)I", 3, some .int, [])
theorem mk_X7_fightByRecord : mOK mX7_fightByRecord cX7_fightByRecord 2 := ⟨gMem (i := 858) (by decide +kernel) (by rfl), gMem (i := 8) (by decide +kernel) (by rfl), by decide +kernel, by decide +kernel, by decide +kernel⟩
theorem mi_X7_fightByRecord : mInst mX7_fightByRecord := ⟨gMem (i := 856) (by decide +kernel) (by rfl), gMem (i := 857) (by decide +kernel) (by rfl)⟩
abbrev mX7_fills : mT := (RX7, "fills", "(I)V", 4, none, [])
theorem mk_X7_fills : mOK mX7_fills cX7_fills 1 := ⟨gMem (i := 723) (by decide +kernel) (by rfl), gMem (i := 8) (by decide +kernel) (by rfl), by decide +kernel, by decide +kernel, by decide +kernel⟩
theorem mi_X7_fills : mInst mX7_fills := ⟨gMem (i := 722) (by decide +kernel) (by rfl), gSel (y := mY mX7_fills) (i := 41) (n := 19) (by decide +kernel)⟩
abbrev mX7_fillsSlot : mT := (RX7, "fillsSlot", "(II)V", 7, none, [])
theorem mk_X7_fillsSlot : mOK mX7_fillsSlot cX7_fillsSlot 2 := ⟨gMem (i := 727) (by decide +kernel) (by rfl), gMem (i := 8) (by decide +kernel) (by rfl), by decide +kernel, by decide +kernel, by decide +kernel⟩
theorem mi_X7_fillsSlot : mInst mX7_fillsSlot := ⟨gMem (i := 726) (by decide +kernel) (by rfl), gSel (y := mY mX7_fillsSlot) (i := 42) (n := 19) (by decide +kernel)⟩
abbrev mX7_fought : mT := (RX7, "fought", "(II)I", 4, some .int, [])
theorem mk_X7_fought : mOK mX7_fought cX7_fought 2 := ⟨gMem (i := 819) (by decide +kernel) (by rfl), gMem (i := 8) (by decide +kernel) (by rfl), by decide +kernel, by decide +kernel, by decide +kernel⟩
theorem mi_X7_fought : mInst mX7_fought := ⟨gMem (i := 818) (by decide +kernel) (by rfl), gSel (y := mY mX7_fought) (i := 55) (n := 19) (by decide +kernel)⟩
abbrev mX7_gold : mT := (RX7, "gold", "(I)I", 2, some .int, [])
theorem mk_X7_gold : mOK mX7_gold cX7_gold 1 := ⟨gMem (i := 862) (by decide +kernel) (by rfl), gMem (i := 8) (by decide +kernel) (by rfl), by decide +kernel, by decide +kernel, by decide +kernel⟩
theorem mi_X7_gold : mInst mX7_gold := ⟨gMem (i := 860) (by decide +kernel) (by rfl), gMem (i := 861) (by decide +kernel) (by rfl)⟩
abbrev mX7_health : mT := (RX7, "health", "(I)I", 2, some .int, [])
theorem mk_X7_health : mOK mX7_health cX7_health 1 := ⟨gMem (i := 866) (by decide +kernel) (by rfl), gMem (i := 8) (by decide +kernel) (by rfl), by decide +kernel, by decide +kernel, by decide +kernel⟩
theorem mi_X7_health : mInst mX7_health := ⟨gMem (i := 864) (by decide +kernel) (by rfl), gMem (i := 865) (by decide +kernel) (by rfl)⟩
abbrev mX7_holds : mT := (RX7, "holds", "(I)Z", 2, some .boolean, [])
theorem mk_X7_holds : mOK mX7_holds cX7_holds 1 := ⟨gMem (i := 712) (by decide +kernel) (by rfl), gMem (i := 8) (by decide +kernel) (by rfl), by decide +kernel, by decide +kernel, by decide +kernel⟩
theorem mi_X7_holds : mInst mX7_holds := ⟨gMem (i := 711) (by decide +kernel) (by rfl), gSel (y := mY mX7_holds) (i := 40) (n := 19) (by decide +kernel)⟩
abbrev mX7_in : mT := (RX7, "in", "(III)Z", 3, some .boolean, [])
theorem mk_X7_in : mOK mX7_in cX7_in 3 := ⟨gMem (i := 708) (by decide +kernel) (by rfl), gMem (i := 8) (by decide +kernel) (by rfl), by decide +kernel, by decide +kernel, by decide +kernel⟩
theorem ms_X7_in : Cond.static (mY mX7_in) ∈ gWds := gMem (i := 707) (by decide +kernel) (by rfl)
abbrev mX7_init : mT := (RX7, "<init>", "()V", 2, none, [])
theorem mk_X7_init : mOK mX7_init cX7_init 0 := ⟨gMem (i := 637) (by decide +kernel) (by rfl), gMem (i := 8) (by decide +kernel) (by rfl), by decide +kernel, by decide +kernel, by decide +kernel⟩
theorem mi_X7_init : Cond.instanceMethod (mY mX7_init) ∈ gWds := gMem (i := 636) (by decide +kernel) (by rfl)
abbrev mX7_isKind : mT := (RX7, "isKind", "(I)Z", 1, some .boolean, [])
theorem mk_X7_isKind : mOK mX7_isKind cX7_isKind 1 := ⟨gMem (i := 893) (by decide +kernel) (by rfl), gMem (i := 8) (by decide +kernel) (by rfl), by decide +kernel, by decide +kernel, by decide +kernel⟩
theorem ms_X7_isKind : Cond.static (mY mX7_isKind) ∈ gWds := gMem (i := 892) (by decide +kernel) (by rfl)
abbrev mX7_isOnBench : mT := (RX7, "isOnBench", "(II)Z", 3, some .boolean, [])
theorem mk_X7_isOnBench : mOK mX7_isOnBench cX7_isOnBench 2 := ⟨gMem (i := 789) (by decide +kernel) (by rfl), gMem (i := 8) (by decide +kernel) (by rfl), by decide +kernel, by decide +kernel, by decide +kernel⟩
theorem mi_X7_isOnBench : mInst mX7_isOnBench := ⟨gMem (i := 788) (by decide +kernel) (by rfl), gSel (y := mY mX7_isOnBench) (i := 52) (n := 19) (by decide +kernel)⟩
abbrev mX7_isOnBoard : mT := (RX7, "isOnBoard", "(II)Z", 3, some .boolean, [])
theorem mk_X7_isOnBoard : mOK mX7_isOnBoard cX7_isOnBoard 2 := ⟨gMem (i := 807) (by decide +kernel) (by rfl), gMem (i := 8) (by decide +kernel) (by rfl), by decide +kernel, by decide +kernel, by decide +kernel⟩
theorem mi_X7_isOnBoard : mInst mX7_isOnBoard := ⟨gMem (i := 806) (by decide +kernel) (by rfl), gSel (y := mY mX7_isOnBoard) (i := 53) (n := 19) (by decide +kernel)⟩
abbrev mX7_isPlayer : mT := (RX7, "isPlayer", "(I)Z", 1, some .boolean, [])
theorem mk_X7_isPlayer : mOK mX7_isPlayer cX7_isPlayer 1 := ⟨gMem (i := 719) (by decide +kernel) (by rfl), gMem (i := 8) (by decide +kernel) (by rfl), by decide +kernel, by decide +kernel, by decide +kernel⟩
theorem ms_X7_isPlayer : Cond.static (mY mX7_isPlayer) ∈ gWds := gMem (i := 718) (by decide +kernel) (by rfl)
abbrev mX7_isSlot : mT := (RX7, "isSlot", "(II)Z", 2, some .boolean, [])
theorem mk_X7_isSlot : mOK mX7_isSlot cX7_isSlot 2 := ⟨gMem (i := 753) (by decide +kernel) (by rfl), gMem (i := 8) (by decide +kernel) (by rfl), by decide +kernel, by decide +kernel, by decide +kernel⟩
theorem ms_X7_isSlot : Cond.static (mY mX7_isSlot) ∈ gWds := gMem (i := 752) (by decide +kernel) (by rfl)
abbrev mX7_least : mT := (RX7, "least", "(II)I", 2, some .int, [])
theorem mk_X7_least : mOK mX7_least cX7_least 2 := ⟨gMem (i := 795) (by decide +kernel) (by rfl), gMem (i := 8) (by decide +kernel) (by rfl), by decide +kernel, by decide +kernel, by decide +kernel⟩
theorem ms_X7_least : Cond.static (mY mX7_least) ∈ gWds := gMem (i := 794) (by decide +kernel) (by rfl)
abbrev mX7_living : mT := (RX7, "living", "(I)I", 4, some .int, [])
theorem mk_X7_living : mOK mX7_living cX7_living 1 := ⟨gMem (i := 827) (by decide +kernel) (by rfl), gMem (i := 8) (by decide +kernel) (by rfl), by decide +kernel, by decide +kernel, by decide +kernel⟩
theorem mi_X7_living : mInst mX7_living := ⟨gMem (i := 826) (by decide +kernel) (by rfl), gSel (y := mY mX7_living) (i := 57) (n := 19) (by decide +kernel)⟩
abbrev mX7_mayFight : mT := (RX7, "mayFight", "(II)Z", 3, some .boolean, [])
theorem mk_X7_mayFight : mOK mX7_mayFight cX7_mayFight 2 := ⟨gMem (i := 854) (by decide +kernel) (by rfl), gMem (i := 8) (by decide +kernel) (by rfl), by decide +kernel, by decide +kernel, by decide +kernel⟩
theorem mi_X7_mayFight : mInst mX7_mayFight := ⟨gMem (i := 853) (by decide +kernel) (by rfl), gSel (y := mY mX7_mayFight) (i := 61) (n := 19) (by decide +kernel)⟩
abbrev mX7_merge : mT := (RX7, "merge", "(II)V", 4, none, [])
theorem mk_X7_merge : mOK mX7_merge cX7_merge 2 := ⟨gMem (i := 765) (by decide +kernel) (by rfl), gMem (i := 8) (by decide +kernel) (by rfl), by decide +kernel, by decide +kernel, by decide +kernel⟩
theorem mi_X7_merge : mInst mX7_merge := ⟨gMem (i := 764) (by decide +kernel) (by rfl), gSel (y := mY mX7_merge) (i := 47) (n := 19) (by decide +kernel)⟩
abbrev mX7_merges : mT := (RX7, "merges", "(I)V", 5, none, [])
theorem mk_X7_merges : mOK mX7_merges cX7_merges 1 := ⟨gMem (i := 757) (by decide +kernel) (by rfl), gMem (i := 8) (by decide +kernel) (by rfl), by decide +kernel, by decide +kernel, by decide +kernel⟩
theorem mi_X7_merges : mInst mX7_merges := ⟨gMem (i := 756) (by decide +kernel) (by rfl), gSel (y := mY mX7_merges) (i := 45) (n := 19) (by decide +kernel)⟩
abbrev mX7_next : mT := (RX7, "next", "()I", 2, some .int, [])
theorem mk_X7_next : mOK mX7_next cX7_next 0 := ⟨gMem (i := 731) (by decide +kernel) (by rfl), gMem (i := 8) (by decide +kernel) (by rfl), by decide +kernel, by decide +kernel, by decide +kernel⟩
theorem mi_X7_next : mInst mX7_next := ⟨gMem (i := 730) (by decide +kernel) (by rfl), gSel (y := mY mX7_next) (i := 43) (n := 19) (by decide +kernel)⟩
abbrev mX7_out : mT := (RX7, "out", "(I)I", 5, some .int, [])
theorem mk_X7_out : mOK mX7_out cX7_out 1 := ⟨gMem (i := 897) (by decide +kernel) (by rfl), gMem (i := 8) (by decide +kernel) (by rfl), by decide +kernel, by decide +kernel, by decide +kernel⟩
theorem mi_X7_out : mInst mX7_out := ⟨gMem (i := 895) (by decide +kernel) (by rfl), gMem (i := 896) (by decide +kernel) (by rfl)⟩
abbrev mX7_pairs : mT := (RX7, "pairs", "(II)V", 4, none, [])
theorem mk_X7_pairs : mOK mX7_pairs cX7_pairs 2 := ⟨gMem (i := 815) (by decide +kernel) (by rfl), gMem (i := 8) (by decide +kernel) (by rfl), by decide +kernel, by decide +kernel, by decide +kernel⟩
theorem mi_X7_pairs : mInst mX7_pairs := ⟨gMem (i := 814) (by decide +kernel) (by rfl), gSel (y := mY mX7_pairs) (i := 54) (n := 19) (by decide +kernel)⟩
abbrev mX7_placeOf : mT := (RX7, "placeOf", "(III)I", 6, some .int, [])
theorem mk_X7_placeOf : mOK mX7_placeOf cX7_placeOf 3 := ⟨gMem (i := 769) (by decide +kernel) (by rfl), gMem (i := 8) (by decide +kernel) (by rfl), by decide +kernel, by decide +kernel, by decide +kernel⟩
theorem mi_X7_placeOf : mInst mX7_placeOf := ⟨gMem (i := 768) (by decide +kernel) (by rfl), gSel (y := mY mX7_placeOf) (i := 48) (n := 19) (by decide +kernel)⟩
abbrev mX7_pool : mT := (RX7, "pool", "(I)I", 2, some .int, [])
theorem mk_X7_pool : mOK mX7_pool cX7_pool 1 := ⟨gMem (i := 890) (by decide +kernel) (by rfl), gMem (i := 8) (by decide +kernel) (by rfl), by decide +kernel, by decide +kernel, by decide +kernel⟩
theorem mi_X7_pool : mInst mX7_pool := ⟨gMem (i := 888) (by decide +kernel) (by rfl), gMem (i := 889) (by decide +kernel) (by rfl)⟩
abbrev mX7_roll : mT := (RX7, "roll", "(I)I", 2, some .int, [])
theorem mk_X7_roll : mOK mX7_roll cX7_roll 1 := ⟨gMem (i := 716) (by decide +kernel) (by rfl), gMem (i := 8) (by decide +kernel) (by rfl), by decide +kernel, by decide +kernel, by decide +kernel⟩
theorem mi_X7_roll : mInst mX7_roll := ⟨gMem (i := 714) (by decide +kernel) (by rfl), gMem (i := 715) (by decide +kernel) (by rfl)⟩
abbrev mX7_round : mT := (RX7, "round", "()I", 5, some .int, [])
theorem mk_X7_round : mOK mX7_round cX7_round 0 := ⟨gMem (i := 811) (by decide +kernel) (by rfl), gMem (i := 8) (by decide +kernel) (by rfl), by decide +kernel, by decide +kernel, by decide +kernel⟩
theorem mi_X7_round : mInst mX7_round := ⟨gMem (i := 809) (by decide +kernel) (by rfl), gMem (i := 810) (by decide +kernel) (by rfl)⟩
abbrev mX7_rounds : mT := (RX7, "rounds", "()I", 1, some .int, [])
theorem mk_X7_rounds : mOK mX7_rounds cX7_rounds 0 := ⟨gMem (i := 846) (by decide +kernel) (by rfl), gMem (i := 8) (by decide +kernel) (by rfl), by decide +kernel, by decide +kernel, by decide +kernel⟩
theorem mi_X7_rounds : mInst mX7_rounds := ⟨gMem (i := 844) (by decide +kernel) (by rfl), gMem (i := 845) (by decide +kernel) (by rfl)⟩
abbrev mX7_sell : mT := (RX7, "sell", "(II)I", 5, some .int, [])
theorem mk_X7_sell : mOK mX7_sell cX7_sell 2 := ⟨gMem (i := 785) (by decide +kernel) (by rfl), gMem (i := 8) (by decide +kernel) (by rfl), by decide +kernel, by decide +kernel, by decide +kernel⟩
theorem mi_X7_sell : mInst mX7_sell := ⟨gMem (i := 783) (by decide +kernel) (by rfl), gMem (i := 784) (by decide +kernel) (by rfl)⟩
abbrev mX7_shopAt : mT := (RX7, "shopAt", "(II)I", 3, some .int, [])
theorem mk_X7_shopAt : mOK mX7_shopAt cX7_shopAt 2 := ⟨gMem (i := 874) (by decide +kernel) (by rfl), gMem (i := 8) (by decide +kernel) (by rfl), by decide +kernel, by decide +kernel, by decide +kernel⟩
theorem mi_X7_shopAt : mInst mX7_shopAt := ⟨gMem (i := 872) (by decide +kernel) (by rfl), gMem (i := 873) (by decide +kernel) (by rfl)⟩
abbrev mX7_stands : mT := (RX7, "stands", "(II)V", 5, none, [])
theorem mk_X7_stands : mOK mX7_stands cX7_stands 2 := ⟨gMem (i := 823) (by decide +kernel) (by rfl), gMem (i := 8) (by decide +kernel) (by rfl), by decide +kernel, by decide +kernel, by decide +kernel⟩
theorem mi_X7_stands : mInst mX7_stands := ⟨gMem (i := 822) (by decide +kernel) (by rfl), gSel (y := mY mX7_stands) (i := 56) (n := 19) (by decide +kernel)⟩
abbrev mX7_streak : mT := (RX7, "streak", "(I)I", 2, some .int, [])
theorem mk_X7_streak : mOK mX7_streak cX7_streak 1 := ⟨gMem (i := 870) (by decide +kernel) (by rfl), gMem (i := 8) (by decide +kernel) (by rfl), by decide +kernel, by decide +kernel, by decide +kernel⟩
theorem mi_X7_streak : mInst mX7_streak := ⟨gMem (i := 868) (by decide +kernel) (by rfl), gMem (i := 869) (by decide +kernel) (by rfl)⟩
abbrev mX7_takes : mT := (RX7, "takes", "(II)V", 3, none, [])
theorem mk_X7_takes : mOK mX7_takes cX7_takes 2 := ⟨gMem (i := 773) (by decide +kernel) (by rfl), gMem (i := 8) (by decide +kernel) (by rfl), by decide +kernel, by decide +kernel, by decide +kernel⟩
theorem mi_X7_takes : mInst mX7_takes := ⟨gMem (i := 772) (by decide +kernel) (by rfl), gSel (y := mY mX7_takes) (i := 49) (n := 19) (by decide +kernel)⟩
abbrev mX7_takesOffBench : mT := (RX7, "takesOffBench", "(II)V", 4, none, [])
theorem mk_X7_takesOffBench : mOK mX7_takesOffBench cX7_takesOffBench 2 := ⟨gMem (i := 781) (by decide +kernel) (by rfl), gMem (i := 8) (by decide +kernel) (by rfl), by decide +kernel, by decide +kernel, by decide +kernel⟩
theorem mi_X7_takesOffBench : mInst mX7_takesOffBench := ⟨gMem (i := 780) (by decide +kernel) (by rfl), gSel (y := mY mX7_takesOffBench) (i := 51) (n := 19) (by decide +kernel)⟩
abbrev mX7_takesOffBoard : mT := (RX7, "takesOffBoard", "(II)V", 4, none, [])
theorem mk_X7_takesOffBoard : mOK mX7_takesOffBoard cX7_takesOffBoard 2 := ⟨gMem (i := 777) (by decide +kernel) (by rfl), gMem (i := 8) (by decide +kernel) (by rfl), by decide +kernel, by decide +kernel, by decide +kernel⟩
theorem mi_X7_takesOffBoard : mInst mX7_takesOffBoard := ⟨gMem (i := 776) (by decide +kernel) (by rfl), gSel (y := mY mX7_takesOffBoard) (i := 50) (n := 19) (by decide +kernel)⟩
abbrev mX7_tell : mT := (RX7, "tell", "(I)I", 2, some .int, [])
theorem mk_X7_tell : mOK mX7_tell cX7_tell 1 := ⟨gMem (i := 705) (by decide +kernel) (by rfl), gMem (i := 8) (by decide +kernel) (by rfl), by decide +kernel, by decide +kernel, by decide +kernel⟩
theorem mi_X7_tell : mInst mX7_tell := ⟨gMem (i := 703) (by decide +kernel) (by rfl), gMem (i := 704) (by decide +kernel) (by rfl)⟩
abbrev mX7_third : mT := (RX7, "third", "(I)I", 1, some .int, [])
theorem mk_X7_third : mOK mX7_third cX7_third 1 := ⟨gMem (i := 842) (by decide +kernel) (by rfl), gMem (i := 8) (by decide +kernel) (by rfl), by decide +kernel, by decide +kernel, by decide +kernel⟩
theorem ms_X7_third : Cond.static (mY mX7_third) ∈ gWds := gMem (i := 841) (by decide +kernel) (by rfl)
abbrev mX7_thrown : mT := (RX7, "thrown", "()I", 1, some .int, [])
theorem mk_X7_thrown : mOK mX7_thrown cX7_thrown 0 := ⟨gMem (i := 701) (by decide +kernel) (by rfl), gMem (i := 8) (by decide +kernel) (by rfl), by decide +kernel, by decide +kernel, by decide +kernel⟩
theorem mi_X7_thrown : mInst mX7_thrown := ⟨gMem (i := 699) (by decide +kernel) (by rfl), gMem (i := 700) (by decide +kernel) (by rfl)⟩
abbrev mX7_toBench : mT := (RX7, "toBench", "(II)I", 5, some .int, [])
theorem mk_X7_toBench : mOK mX7_toBench cX7_toBench 2 := ⟨gMem (i := 803) (by decide +kernel) (by rfl), gMem (i := 8) (by decide +kernel) (by rfl), by decide +kernel, by decide +kernel, by decide +kernel⟩
theorem mi_X7_toBench : mInst mX7_toBench := ⟨gMem (i := 801) (by decide +kernel) (by rfl), gMem (i := 802) (by decide +kernel) (by rfl)⟩
abbrev mX7_toBoard : mT := (RX7, "toBoard", "(II)I", 5, some .int, [])
theorem mk_X7_toBoard : mOK mX7_toBoard cX7_toBoard 2 := ⟨gMem (i := 799) (by decide +kernel) (by rfl), gMem (i := 8) (by decide +kernel) (by rfl), by decide +kernel, by decide +kernel, by decide +kernel⟩
theorem mi_X7_toBoard : mInst mX7_toBoard := ⟨gMem (i := 797) (by decide +kernel) (by rfl), gMem (i := 798) (by decide +kernel) (by rfl)⟩
abbrev mX7_toggleLock : mT := (RX7, "toggleLock", "(I)Z", 2, some .boolean, [])
theorem mk_X7_toggleLock : mOK mX7_toggleLock cX7_toggleLock 1 := ⟨gMem (i := 738) (by decide +kernel) (by rfl), gMem (i := 8) (by decide +kernel) (by rfl), by decide +kernel, by decide +kernel, by decide +kernel⟩
theorem mi_X7_toggleLock : mInst mX7_toggleLock := ⟨gMem (i := 736) (by decide +kernel) (by rfl), gMem (i := 737) (by decide +kernel) (by rfl)⟩
abbrev mX7_wins : mT := (RX7, "wins", "(III)V", 4, none, [])
theorem mk_X7_wins : mOK mX7_wins cX7_wins 3 := ⟨gMem (i := 839) (by decide +kernel) (by rfl), gMem (i := 8) (by decide +kernel) (by rfl), by decide +kernel, by decide +kernel, by decide +kernel⟩
theorem mi_X7_wins : mInst mX7_wins := ⟨gMem (i := 838) (by decide +kernel) (by rfl), gSel (y := mY mX7_wins) (i := 60) (n := 19) (by decide +kernel)⟩
abbrev mX7_worth : mT := (RX7, "worth", "(I)I", 1, some .int, [])
theorem mk_X7_worth : mOK mX7_worth cX7_worth 1 := ⟨gMem (i := 792) (by decide +kernel) (by rfl), gMem (i := 8) (by decide +kernel) (by rfl), by decide +kernel, by decide +kernel, by decide +kernel⟩
theorem ms_X7_worth : Cond.static (mY mX7_worth) ∈ gWds := gMem (i := 791) (by decide +kernel) (by rfl)
theorem ll_L_66 : lLk RL 66 mX6_benchAt := Or.inl (gMem (i := 581) (by decide +kernel) (by rfl))
theorem ll_L_72 : lLk RL 72 mX6_blow := Or.inl (gMem (i := 601) (by decide +kernel) (by rfl))
theorem ll_L_69 : lLk RL 69 mX6_boardAt := Or.inl (gMem (i := 593) (by decide +kernel) (by rfl))
theorem ll_L_29 : lLk RL 29 mX6_buy := Or.inl (gMem (i := 346) (by decide +kernel) (by rfl))
theorem ll_L_26 : lLk RL 26 mX6_buyLevel := Or.inl (gMem (i := 336) (by decide +kernel) (by rfl))
theorem ll_L_48 : lLk RL 48 mX6_fight := Or.inl (gMem (i := 535) (by decide +kernel) (by rfl))
theorem ll_L_51 : lLk RL 51 mX6_fightByRecord := Or.inl (gMem (i := 542) (by decide +kernel) (by rfl))
theorem ll_L_54 : lLk RL 54 mX6_gold := Or.inl (gMem (i := 553) (by decide +kernel) (by rfl))
theorem ll_L_57 : lLk RL 57 mX6_health := Or.inl (gMem (i := 560) (by decide +kernel) (by rfl))
theorem ll_L_81 : lLk RL 81 mX6_init := Or.inl (gMem (i := 19) (by decide +kernel) (by rfl))
theorem ll_L_84 : lLk RL 84 mX7_init := Or.inl (gMem (i := 635) (by decide +kernel) (by rfl))
theorem lw_L_85 : Cond.methodLink RL 85 (mY mL_tell) ∈ gWds := gMem (i := 176) (by decide +kernel) (by rfl)
theorem ll_L_85 : lLk RL 85 mL_tell := Or.inl (gMem (i := 176) (by decide +kernel) (by rfl))
theorem ll_L_90 : lLk RL 90 mX7_tell := Or.inl (gMem (i := 702) (by decide +kernel) (by rfl))
theorem ll_L_91 : lLk RL 91 mX7_thrown := Or.inl (gMem (i := 698) (by decide +kernel) (by rfl))
theorem lw_L_94 : Cond.methodLink RL 94 (mY mL_roll) ∈ gWds := gMem (i := 274) (by decide +kernel) (by rfl)
theorem ll_L_94 : lLk RL 94 mL_roll := Or.inl (gMem (i := 274) (by decide +kernel) (by rfl))
theorem ll_L_96 : lLk RL 96 mX7_roll := Or.inl (gMem (i := 713) (by decide +kernel) (by rfl))
theorem lw_L_97 : Cond.methodLink RL 97 (mY mL_toggleLock) ∈ gWds := gMem (i := 326) (by decide +kernel) (by rfl)
theorem ll_L_97 : lLk RL 97 mL_toggleLock := Or.inl (gMem (i := 326) (by decide +kernel) (by rfl))
theorem ll_L_99 : lLk RL 99 mX7_toggleLock := Or.inl (gMem (i := 735) (by decide +kernel) (by rfl))
theorem lw_L_100 : Cond.methodLink RL 100 (mY mL_buyLevel) ∈ gWds := gMem (i := 333) (by decide +kernel) (by rfl)
theorem ll_L_100 : lLk RL 100 mL_buyLevel := Or.inl (gMem (i := 333) (by decide +kernel) (by rfl))
theorem ll_L_102 : lLk RL 102 mX7_buyLevel := Or.inl (gMem (i := 739) (by decide +kernel) (by rfl))
theorem lw_L_103 : Cond.methodLink RL 103 (mY mL_buy) ∈ gWds := gMem (i := 342) (by decide +kernel) (by rfl)
theorem ll_L_103 : lLk RL 103 mL_buy := Or.inl (gMem (i := 342) (by decide +kernel) (by rfl))
theorem ll_L_106 : lLk RL 106 mX7_buy := Or.inl (gMem (i := 743) (by decide +kernel) (by rfl))
theorem lw_L_107 : Cond.methodLink RL 107 (mY mL_sell) ∈ gWds := gMem (i := 408) (by decide +kernel) (by rfl)
theorem ll_L_107 : lLk RL 107 mL_sell := Or.inl (gMem (i := 408) (by decide +kernel) (by rfl))
theorem ll_L_109 : lLk RL 109 mX7_sell := Or.inl (gMem (i := 782) (by decide +kernel) (by rfl))
theorem lw_L_110 : Cond.methodLink RL 110 (mY mL_toBoard) ∈ gWds := gMem (i := 431) (by decide +kernel) (by rfl)
theorem ll_L_110 : lLk RL 110 mL_toBoard := Or.inl (gMem (i := 431) (by decide +kernel) (by rfl))
theorem ll_L_112 : lLk RL 112 mX7_toBoard := Or.inl (gMem (i := 796) (by decide +kernel) (by rfl))
theorem lw_L_113 : Cond.methodLink RL 113 (mY mL_toBench) ∈ gWds := gMem (i := 439) (by decide +kernel) (by rfl)
theorem ll_L_113 : lLk RL 113 mL_toBench := Or.inl (gMem (i := 439) (by decide +kernel) (by rfl))
theorem ll_L_115 : lLk RL 115 mX7_toBench := Or.inl (gMem (i := 800) (by decide +kernel) (by rfl))
theorem lw_L_116 : Cond.methodLink RL 116 (mY mL_round) ∈ gWds := gMem (i := 446) (by decide +kernel) (by rfl)
theorem ll_L_116 : lLk RL 116 mL_round := Or.inl (gMem (i := 446) (by decide +kernel) (by rfl))
theorem ll_L_119 : lLk RL 119 mX7_round := Or.inl (gMem (i := 808) (by decide +kernel) (by rfl))
theorem ll_L_120 : lLk RL 120 mX6_rounds := Or.inl (gMem (i := 172) (by decide +kernel) (by rfl))
theorem ll_L_123 : lLk RL 123 mX7_rounds := Or.inl (gMem (i := 843) (by decide +kernel) (by rfl))
theorem lw_L_124 : Cond.methodLink RL 124 (mY mL_fight) ∈ gWds := gMem (i := 532) (by decide +kernel) (by rfl)
theorem ll_L_124 : lLk RL 124 mL_fight := Or.inl (gMem (i := 532) (by decide +kernel) (by rfl))
theorem ll_L_126 : lLk RL 126 mX7_fight := Or.inl (gMem (i := 847) (by decide +kernel) (by rfl))
theorem lw_L_127 : Cond.methodLink RL 127 (mY mL_fightByRecord) ∈ gWds := gMem (i := 539) (by decide +kernel) (by rfl)
theorem ll_L_127 : lLk RL 127 mL_fightByRecord := Or.inl (gMem (i := 539) (by decide +kernel) (by rfl))
theorem ll_L_129 : lLk RL 129 mX7_fightByRecord := Or.inl (gMem (i := 855) (by decide +kernel) (by rfl))
theorem lw_L_130 : Cond.methodLink RL 130 (mY mL_gold) ∈ gWds := gMem (i := 550) (by decide +kernel) (by rfl)
theorem ll_L_130 : lLk RL 130 mL_gold := Or.inl (gMem (i := 550) (by decide +kernel) (by rfl))
theorem ll_L_132 : lLk RL 132 mX7_gold := Or.inl (gMem (i := 859) (by decide +kernel) (by rfl))
theorem lw_L_133 : Cond.methodLink RL 133 (mY mL_health) ∈ gWds := gMem (i := 557) (by decide +kernel) (by rfl)
theorem ll_L_133 : lLk RL 133 mL_health := Or.inl (gMem (i := 557) (by decide +kernel) (by rfl))
theorem ll_L_135 : lLk RL 135 mX7_health := Or.inl (gMem (i := 863) (by decide +kernel) (by rfl))
theorem lw_L_136 : Cond.methodLink RL 136 (mY mL_streak) ∈ gWds := gMem (i := 564) (by decide +kernel) (by rfl)
theorem ll_L_136 : lLk RL 136 mL_streak := Or.inl (gMem (i := 564) (by decide +kernel) (by rfl))
theorem ll_L_138 : lLk RL 138 mX7_streak := Or.inl (gMem (i := 867) (by decide +kernel) (by rfl))
theorem lw_L_139 : Cond.methodLink RL 139 (mY mL_shopAt) ∈ gWds := gMem (i := 571) (by decide +kernel) (by rfl)
theorem ll_L_139 : lLk RL 139 mL_shopAt := Or.inl (gMem (i := 571) (by decide +kernel) (by rfl))
theorem ll_L_141 : lLk RL 141 mX7_shopAt := Or.inl (gMem (i := 871) (by decide +kernel) (by rfl))
theorem lw_L_142 : Cond.methodLink RL 142 (mY mL_benchAt) ∈ gWds := gMem (i := 578) (by decide +kernel) (by rfl)
theorem ll_L_142 : lLk RL 142 mL_benchAt := Or.inl (gMem (i := 578) (by decide +kernel) (by rfl))
theorem ll_L_144 : lLk RL 144 mX7_benchAt := Or.inl (gMem (i := 875) (by decide +kernel) (by rfl))
theorem lw_L_145 : Cond.methodLink RL 145 (mY mL_boardAt) ∈ gWds := gMem (i := 590) (by decide +kernel) (by rfl)
theorem ll_L_145 : lLk RL 145 mL_boardAt := Or.inl (gMem (i := 590) (by decide +kernel) (by rfl))
theorem ll_L_147 : lLk RL 147 mX7_boardAt := Or.inl (gMem (i := 879) (by decide +kernel) (by rfl))
theorem lw_L_148 : Cond.methodLink RL 148 (mY mL_blow) ∈ gWds := gMem (i := 598) (by decide +kernel) (by rfl)
theorem ll_L_148 : lLk RL 148 mL_blow := Or.inl (gMem (i := 598) (by decide +kernel) (by rfl))
theorem ll_L_150 : lLk RL 150 mX7_blow := Or.inl (gMem (i := 883) (by decide +kernel) (by rfl))
theorem lw_L_151 : Cond.methodLink RL 151 (mY mL_pool) ∈ gWds := gMem (i := 606) (by decide +kernel) (by rfl)
theorem ll_L_151 : lLk RL 151 mL_pool := Or.inl (gMem (i := 606) (by decide +kernel) (by rfl))
theorem ll_L_153 : lLk RL 153 mX7_pool := Or.inl (gMem (i := 887) (by decide +kernel) (by rfl))
theorem lw_L_154 : Cond.methodLink RL 154 (mY mL_out) ∈ gWds := gMem (i := 617) (by decide +kernel) (by rfl)
theorem ll_L_154 : lLk RL 154 mL_out := Or.inl (gMem (i := 617) (by decide +kernel) (by rfl))
theorem ll_L_156 : lLk RL 156 mX7_out := Or.inl (gMem (i := 894) (by decide +kernel) (by rfl))
theorem ll_L_78 : lLk RL 78 mX6_out := Or.inl (gMem (i := 620) (by decide +kernel) (by rfl))
theorem ll_L_75 : lLk RL 75 mX6_pool := Or.inl (gMem (i := 609) (by decide +kernel) (by rfl))
theorem ll_L_17 : lLk RL 17 mX6_roll := Or.inl (gMem (i := 278) (by decide +kernel) (by rfl))
theorem ll_L_44 : lLk RL 44 mX6_round := Or.inl (gMem (i := 449) (by decide +kernel) (by rfl))
theorem ll_L_35 : lLk RL 35 mX6_sell := Or.inl (gMem (i := 411) (by decide +kernel) (by rfl))
theorem ll_L_63 : lLk RL 63 mX6_shopAt := Or.inl (gMem (i := 574) (by decide +kernel) (by rfl))
theorem ll_L_60 : lLk RL 60 mX6_streak := Or.inl (gMem (i := 567) (by decide +kernel) (by rfl))
theorem ll_L_7 : lLk RL 7 mX6_tell := Or.inl (gMem (i := 181) (by decide +kernel) (by rfl))
theorem ll_L_41 : lLk RL 41 mX6_toBench := Or.inl (gMem (i := 442) (by decide +kernel) (by rfl))
theorem ll_L_38 : lLk RL 38 mX6_toBoard := Or.inl (gMem (i := 434) (by decide +kernel) (by rfl))
theorem ll_L_22 : lLk RL 22 mX6_toggleLock := Or.inl (gMem (i := 329) (by decide +kernel) (by rfl))
theorem fl_X0_32 : fLk RX0 32 0 4 RX0 TX0 5 := ⟨rfl, by decide, in_X0, Or.inl (gMem (i := 86) (by decide +kernel) (by rfl))⟩
theorem fl_X0_12 : fLk RX0 12 0 0 RX0 TX0 5 := ⟨rfl, by decide, in_X0, Or.inl (gMem (i := 82) (by decide +kernel) (by rfl))⟩
theorem fl_X0_18 : fLk RX0 18 0 1 RX0 TX0 5 := ⟨rfl, by decide, in_X0, Or.inl (gMem (i := 83) (by decide +kernel) (by rfl))⟩
theorem ll_X0_36 : lLk RX0 36 mX4_takeTurn := Or.inr ⟨"Gladehall", List.mem_of_getElem? (i := 491) (by decide +kernel)⟩
theorem ll_X0_40 : lLk RX0 40 mX4_firstLiving := Or.inr ⟨"Gladehall", List.mem_of_getElem? (i := 495) (by decide +kernel)⟩
theorem fl_X0_43 : fLk RX0 43 4 1 RX4 TX4 4 := ⟨rfl, by decide, in_X4, Or.inr ⟨"Gladehall", List.mem_of_getElem? (i := 70) (by decide +kernel)⟩⟩
theorem ll_X0_46 : lLk RX0 46 mX4_takeBlow := Or.inr ⟨"Gladehall", List.mem_of_getElem? (i := 499) (by decide +kernel)⟩
theorem fl_X0_21 : fLk RX0 21 0 2 RX0 TX0 5 := ⟨rfl, by decide, in_X0, Or.inl (gMem (i := 84) (by decide +kernel) (by rfl))⟩
theorem fl_X0_25 : fLk RX0 25 0 3 RX0 TX0 5 := ⟨rfl, by decide, in_X0, Or.inl (gMem (i := 85) (by decide +kernel) (by rfl))⟩
theorem lo_X0_3 : Cond.methodLink RX0 3 objectInit ∈ gWds := gMem (i := 61) (by decide +kernel) (by rfl)
theorem ll_X0_11 : lLk RX0 11 mX4_init := Or.inr ⟨"Gladehall", List.mem_of_getElem? (i := 64) (by decide +kernel)⟩
theorem ll_X0_28 : lLk RX0 28 mX4_muster := Or.inr ⟨"Gladehall", List.mem_of_getElem? (i := 469) (by decide +kernel)⟩
theorem ll_X0_50 : lLk RX0 50 mX4_living := Or.inr ⟨"Gladehall", List.mem_of_getElem? (i := 507) (by decide +kernel)⟩
theorem fl_X1_15 : fLk RX1 15 1 2 RX1 TX1 3 := ⟨rfl, by decide, in_X1, Or.inl (gMem (i := 47) (by decide +kernel) (by rfl))⟩
theorem fl_X1_9 : fLk RX1 9 1 0 RX1 TX1 3 := ⟨rfl, by decide, in_X1, Or.inl (gMem (i := 45) (by decide +kernel) (by rfl))⟩
theorem fl_X1_19 : fLk RX1 19 1 1 RX1 TX1 3 := ⟨rfl, by decide, in_X1, Or.inl (gMem (i := 46) (by decide +kernel) (by rfl))⟩
theorem lo_X1_3 : Cond.methodLink RX1 3 objectInit ∈ gWds := gMem (i := 44) (by decide +kernel) (by rfl)
theorem fl_X2_9 : fLk RX2 9 2 0 RX2 TX2 8 := ⟨rfl, by decide, in_X2, Or.inl (gMem (i := 124) (by decide +kernel) (by rfl))⟩
theorem lm_X2_37 : Cond.methodLink RX2 37 Lib.Math.min.name ∈ gWds := gMem (i := 428) (by decide +kernel) (by rfl)
theorem fl_X2_43 : fLk RX2 43 2 3 RX2 TX2 8 := ⟨rfl, by decide, in_X2, Or.inl (gMem (i := 130) (by decide +kernel) (by rfl))⟩
theorem ll_X2_46 : lLk RX2 46 mX2_addGold := Or.inl (gMem (i := 523) (by decide +kernel) (by rfl))
theorem lo_X2_3 : Cond.methodLink RX2 3 objectInit ∈ gWds := gMem (i := 102) (by decide +kernel) (by rfl)
theorem fl_X2_15 : fLk RX2 15 2 1 RX2 TX2 8 := ⟨rfl, by decide, in_X2, Or.inl (gMem (i := 126) (by decide +kernel) (by rfl))⟩
theorem fl_X2_18 : fLk RX2 18 2 2 RX2 TX2 8 := ⟨rfl, by decide, in_X2, Or.inl (gMem (i := 128) (by decide +kernel) (by rfl))⟩
theorem fl_X2_21 : fLk RX2 21 2 5 RX2 TX2 8 := ⟨rfl, by decide, in_X2, Or.inl (gMem (i := 133) (by decide +kernel) (by rfl))⟩
theorem fg_X2_21 : Cond.fieldLink RX2 21 (TX2 5).1 (TX2 5).2.1 (TX2 5).2.2.1 ∈ gWds := gMem (i := 133) (by decide +kernel) (by rfl)
theorem ll_X2_27 : lLk RX2 27 mX5_init := Or.inr ⟨"Gladehall", List.mem_of_getElem? (i := 105) (by decide +kernel)⟩
theorem fl_X2_30 : fLk RX2 30 2 6 RX2 TX2 8 := ⟨rfl, by decide, in_X2, Or.inl (gMem (i := 135) (by decide +kernel) (by rfl))⟩
theorem fg_X2_30 : Cond.fieldLink RX2 30 (TX2 6).1 (TX2 6).2.1 (TX2 6).2.2.1 ∈ gWds := gMem (i := 135) (by decide +kernel) (by rfl)
theorem fl_X2_34 : fLk RX2 34 2 7 RX2 TX2 8 := ⟨rfl, by decide, in_X2, Or.inl (gMem (i := 137) (by decide +kernel) (by rfl))⟩
theorem fg_X2_34 : Cond.fieldLink RX2 34 (TX2 7).1 (TX2 7).2.1 (TX2 7).2.2.1 ∈ gWds := gMem (i := 137) (by decide +kernel) (by rfl)
theorem ll_X2_57 : lLk RX2 57 mX5_countOf := Or.inr ⟨"Gladehall", List.mem_of_getElem? (i := 384) (by decide +kernel)⟩
theorem ll_X2_60 : lLk RX2 60 mX2_mergeThree := Or.inl (gMem (i := 388) (by decide +kernel) (by rfl))
theorem ll_X2_64 : lLk RX2 64 mX2_rowOfFirst := Or.inl (gMem (i := 392) (by decide +kernel) (by rfl))
theorem ll_X2_68 : lLk RX2 68 mX5_find := Or.inr ⟨"Gladehall", List.mem_of_getElem? (i := 396) (by decide +kernel)⟩
theorem fl_X2_71 : fLk RX2 71 5 1 RX5 TX5 3 := ⟨rfl, by decide, in_X5, Or.inr ⟨"Gladehall", List.mem_of_getElem? (i := 113) (by decide +kernel)⟩⟩
theorem ll_X2_74 : lLk RX2 74 mX5_removeAt := Or.inr ⟨"Gladehall", List.mem_of_getElem? (i := 400) (by decide +kernel)⟩
theorem ll_X2_53 : lLk RX2 53 mX2_mergeFirstThree := Or.inl (gMem (i := 380) (by decide +kernel) (by rfl))
theorem ll_X2_49 : lLk RX2 49 mX5_unitsHeld := Or.inr ⟨"Gladehall", List.mem_of_getElem? (i := 628) (by decide +kernel)⟩
theorem ll_X3_19 : lLk RX3 19 mX3_unitsUpTo := Or.inl (gMem (i := 319) (by decide +kernel) (by rfl))
theorem fl_X3_9 : fLk RX3 9 3 0 RX3 TX3 1 := ⟨rfl, by decide, in_X3, Or.inl (gMem (i := 33) (by decide +kernel) (by rfl))⟩
theorem lo_X3_3 : Cond.methodLink RX3 3 objectInit ∈ gWds := gMem (i := 32) (by decide +kernel) (by rfl)
theorem ll_X3_15 : lLk RX3 15 mX6_costOf := Or.inr ⟨"Gladehall", List.mem_of_getElem? (i := 323) (by decide +kernel)⟩
theorem fl_X4_30 : fLk RX4 30 4 2 RX4 TX4 4 := ⟨rfl, by decide, in_X4, Or.inl (gMem (i := 71) (by decide +kernel) (by rfl))⟩
theorem fl_X4_9 : fLk RX4 9 4 0 RX4 TX4 4 := ⟨rfl, by decide, in_X4, Or.inl (gMem (i := 68) (by decide +kernel) (by rfl))⟩
theorem lo_X4_3 : Cond.methodLink RX4 3 objectInit ∈ gWds := gMem (i := 67) (by decide +kernel) (by rfl)
theorem fl_X4_15 : fLk RX4 15 4 1 RX4 TX4 4 := ⟨rfl, by decide, in_X4, Or.inl (gMem (i := 69) (by decide +kernel) (by rfl))⟩
theorem fg_X4_15 : Cond.fieldLink RX4 15 (TX4 1).1 (TX4 1).2.1 (TX4 1).2.2.1 ∈ gWds := gMem (i := 69) (by decide +kernel) (by rfl)
theorem fl_X4_18 : fLk RX4 18 5 2 RX5 TX5 3 := ⟨rfl, by decide, in_X5, Or.inr ⟨"Gladehall", List.mem_of_getElem? (i := 114) (by decide +kernel)⟩⟩
theorem lm_X4_24 : Cond.methodLink RX4 24 Lib.Math.min.name ∈ gWds := gMem (i := 473) (by decide +kernel) (by rfl)
theorem fl_X4_31 : fLk RX4 31 4 3 RX4 TX4 4 := ⟨rfl, by decide, in_X4, Or.inl (gMem (i := 72) (by decide +kernel) (by rfl))⟩
theorem ll_X4_34 : lLk RX4 34 mX5_healthAt := Or.inr ⟨"Gladehall", List.mem_of_getElem? (i := 474) (by decide +kernel)⟩
theorem ll_X4_38 : lLk RX4 38 mX5_strengthAt := Or.inr ⟨"Gladehall", List.mem_of_getElem? (i := 479) (by decide +kernel)⟩
theorem fl_X5_18 : fLk RX5 18 5 2 RX5 TX5 3 := ⟨rfl, by decide, in_X5, Or.inl (gMem (i := 115) (by decide +kernel) (by rfl))⟩
theorem fl_X5_9 : fLk RX5 9 5 0 RX5 TX5 3 := ⟨rfl, by decide, in_X5, Or.inl (gMem (i := 109) (by decide +kernel) (by rfl))⟩
theorem fl_X5_15 : fLk RX5 15 5 1 RX5 TX5 3 := ⟨rfl, by decide, in_X5, Or.inl (gMem (i := 111) (by decide +kernel) (by rfl))⟩
theorem ll_X5_22 : lLk RX5 22 mX5_has := Or.inl (gMem (i := 404) (by decide +kernel) (by rfl))
theorem ll_X5_30 : lLk RX5 30 mX6_costOf := Or.inr ⟨"Gladehall", List.mem_of_getElem? (i := 478) (by decide +kernel)⟩
theorem lo_X5_3 : Cond.methodLink RX5 3 objectInit ∈ gWds := gMem (i := 108) (by decide +kernel) (by rfl)
theorem ll_X5_33 : lLk RX5 33 mX5_hasKind := Or.inl (gMem (i := 483) (by decide +kernel) (by rfl))
theorem ll_X5_26 : lLk RX5 26 mX6_unitsFor := Or.inr ⟨"Gladehall", List.mem_of_getElem? (i := 632) (by decide +kernel)⟩
theorem ll_X6_57 : lLk RX6 57 mX6_playerOf := Or.inl (gMem (i := 282) (by decide +kernel) (by rfl))
theorem xa_X6_186 : ∀ w ∈ (vx_atS RX6 186 "java/lang/IndexOutOfBoundsException" ["java/lang/RuntimeException", "java/lang/Exception"]).filter goodWord, w ∈ gWds := gFl (by decide +kernel)
theorem xb_X6_186 : ∀ w ∈ (vx_atS RX6 186 "java/lang/IndexOutOfBoundsException" ["java/lang/RuntimeException", "java/lang/Exception"]).filter (fun w => !goodWord w), w ∈ tables_1 ∧ gIsN w = true := by decide +kernel
theorem xa_X6_52 : ∀ w ∈ (vx_atS RX6 52 "java/lang/IllegalStateException" ["java/lang/RuntimeException", "java/lang/Exception"]).filter goodWord, w ∈ gWds := gFl (by decide +kernel)
theorem xb_X6_52 : ∀ w ∈ (vx_atS RX6 52 "java/lang/IllegalStateException" ["java/lang/RuntimeException", "java/lang/Exception"]).filter (fun w => !goodWord w), w ∈ tables_1 ∧ gIsN w = true := by decide +kernel
theorem xa_X6_41 : ∀ w ∈ (vx_atS RX6 41 "java/lang/IllegalArgumentException" ["java/lang/RuntimeException", "java/lang/Exception"]).filter goodWord, w ∈ gWds := gFl (by decide +kernel)
theorem xb_X6_41 : ∀ w ∈ (vx_atS RX6 41 "java/lang/IllegalArgumentException" ["java/lang/RuntimeException", "java/lang/Exception"]).filter (fun w => !goodWord w), w ∈ tables_1 ∧ gIsN w = true := by decide +kernel
theorem xl_X6_184 : xLk RX6 182 184 186 xIO "a bench has no such place" := ⟨by decide +kernel, gMem (i := 286) (by decide +kernel) (by rfl), gMem (i := 14) (by decide +kernel) (by rfl), by decide, List.mem_of_getElem? (i := 585) (by decide +kernel), xa_X6_186, xb_X6_186, by decide +kernel⟩
theorem fl_X6_98 : fLk RX6 98 2 6 RX2 TX2 8 := ⟨rfl, by decide, in_X2, Or.inr ⟨"Gladehall", List.mem_of_getElem? (i := 136) (by decide +kernel)⟩⟩
theorem ll_X6_187 : lLk RX6 187 mX5_unitAt := Or.inr ⟨"Gladehall", List.mem_of_getElem? (i := 586) (by decide +kernel)⟩
theorem fl_X6_135 : fLk RX6 135 2 7 RX2 TX2 8 := ⟨rfl, by decide, in_X2, Or.inr ⟨"Gladehall", List.mem_of_getElem? (i := 138) (by decide +kernel)⟩⟩
theorem ll_X6_112 : lLk RX6 112 mX6_requireUnit := Or.inl (gMem (i := 415) (by decide +kernel) (by rfl))
theorem ll_X6_192 : lLk RX6 192 mX5_strengthAt := Or.inr ⟨"Gladehall", List.mem_of_getElem? (i := 605) (by decide +kernel)⟩
theorem xl_X6_190 : xLk RX6 182 190 186 xIO "a board has no such place" := ⟨by decide +kernel, gMem (i := 286) (by decide +kernel) (by rfl), gMem (i := 14) (by decide +kernel) (by rfl), by decide, List.mem_of_getElem? (i := 597) (by decide +kernel), xa_X6_186, xb_X6_186, by decide +kernel⟩
theorem ll_X6_81 : lLk RX6 81 mX6_requireSlot := Or.inl (gMem (i := 350) (by decide +kernel) (by rfl))
theorem fl_X6_85 : fLk RX6 85 2 5 RX2 TX2 8 := ⟨rfl, by decide, in_X2, Or.inr ⟨"Gladehall", List.mem_of_getElem? (i := 134) (by decide +kernel)⟩⟩
theorem fl_X6_61 : fLk RX6 61 2 0 RX2 TX2 8 := ⟨rfl, by decide, in_X2, Or.inr ⟨"Gladehall", List.mem_of_getElem? (i := 125) (by decide +kernel)⟩⟩
theorem ll_X6_94 : lLk RX6 94 mX6_costOf := Or.inl (gMem (i := 370) (by decide +kernel) (by rfl))
theorem xl_X6_74 : xLk RX6 48 74 52 xIS "the player has too little gold" := ⟨by decide +kernel, gMem (i := 258) (by decide +kernel) (by rfl), gMem (i := 13) (by decide +kernel) (by rfl), by decide, List.mem_of_getElem? (i := 340) (by decide +kernel), xa_X6_52, xb_X6_52, by decide +kernel⟩
theorem ll_X6_102 : lLk RX6 102 mX5_append := Or.inr ⟨"Gladehall", List.mem_of_getElem? (i := 371) (by decide +kernel)⟩
theorem xl_X6_107 : xLk RX6 48 107 52 xIS "the bench has 6 units" := ⟨by decide +kernel, gMem (i := 258) (by decide +kernel) (by rfl), gMem (i := 13) (by decide +kernel) (by rfl), by decide, List.mem_of_getElem? (i := 375) (by decide +kernel), xa_X6_52, xb_X6_52, by decide +kernel⟩
theorem ll_X6_109 : lLk RX6 109 mX2_mergeThrees := Or.inr ⟨"Gladehall", List.mem_of_getElem? (i := 376) (by decide +kernel)⟩
theorem fl_X6_76 : fLk RX6 76 2 1 RX2 TX2 8 := ⟨rfl, by decide, in_X2, Or.inr ⟨"Gladehall", List.mem_of_getElem? (i := 127) (by decide +kernel)⟩⟩
theorem xl_X6_79 : xLk RX6 48 79 52 xIS "the player has the highest level" := ⟨by decide +kernel, gMem (i := 258) (by decide +kernel) (by rfl), gMem (i := 13) (by decide +kernel) (by rfl), by decide, List.mem_of_getElem? (i := 341) (by decide +kernel), xa_X6_52, xb_X6_52, by decide +kernel⟩
theorem ll_X6_164 : lLk RX6 164 mX6_musterSides := Or.inl (gMem (i := 460) (by decide +kernel) (by rfl))
theorem fl_X6_32 : fLk RX6 32 6 3 RX6 TX6 5 := ⟨rfl, by decide, in_X6, Or.inl (gMem (i := 159) (by decide +kernel) (by rfl))⟩
theorem ll_X6_167 : lLk RX6 167 mX0_fightOut := Or.inr ⟨"Gladehall", List.mem_of_getElem? (i := 487) (by decide +kernel)⟩
theorem ll_X6_170 : lLk RX6 170 mX0_result := Or.inr ⟨"Gladehall", List.mem_of_getElem? (i := 503) (by decide +kernel)⟩
theorem ll_X6_173 : lLk RX6 173 mX0_redo := Or.inr ⟨"Gladehall", List.mem_of_getElem? (i := 546) (by decide +kernel)⟩
theorem fl_X6_11 : fLk RX6 11 6 0 RX6 TX6 5 := ⟨rfl, by decide, in_X6, Or.inl (gMem (i := 156) (by decide +kernel) (by rfl))⟩
theorem ll_X6_221 : lLk RX6 221 mX2_win := Or.inr ⟨"Gladehall", List.mem_of_getElem? (i := 511) (by decide +kernel)⟩
theorem ll_X6_224 : lLk RX6 224 mX2_lose := Or.inr ⟨"Gladehall", List.mem_of_getElem? (i := 515) (by decide +kernel)⟩
theorem fl_X6_179 : fLk RX6 179 2 3 RX2 TX2 8 := ⟨rfl, by decide, in_X2, Or.inr ⟨"Gladehall", List.mem_of_getElem? (i := 131) (by decide +kernel)⟩⟩
theorem fl_X6_18 : fLk RX6 18 6 1 RX6 TX6 5 := ⟨rfl, by decide, in_X6, Or.inl (gMem (i := 157) (by decide +kernel) (by rfl))⟩
theorem ll_X6_128 : lLk RX6 128 mX3_putBack := Or.inr ⟨"Gladehall", List.mem_of_getElem? (i := 307) (by decide +kernel)⟩
theorem fl_X6_25 : fLk RX6 25 6 2 RX6 TX6 5 := ⟨rfl, by decide, in_X6, Or.inl (gMem (i := 158) (by decide +kernel) (by rfl))⟩
theorem ll_X6_227 : lLk RX6 227 mX1_take := Or.inr ⟨"Gladehall", List.mem_of_getElem? (i := 311) (by decide +kernel)⟩
theorem ll_X6_230 : lLk RX6 230 mX3_draw := Or.inr ⟨"Gladehall", List.mem_of_getElem? (i := 315) (by decide +kernel)⟩
theorem fl_X6_70 : fLk RX6 70 2 4 RX2 TX2 8 := ⟨rfl, by decide, in_X2, Or.inr ⟨"Gladehall", List.mem_of_getElem? (i := 132) (by decide +kernel)⟩⟩
theorem ll_X6_66 : lLk RX6 66 mX6_fillShop := Or.inl (gMem (i := 303) (by decide +kernel) (by rfl))
theorem fl_X6_176 : fLk RX6 176 2 2 RX2 TX2 8 := ⟨rfl, by decide, in_X2, Or.inr ⟨"Gladehall", List.mem_of_getElem? (i := 129) (by decide +kernel)⟩⟩
theorem lo_X6_1 : Cond.methodLink RX6 1 objectInit ∈ gWds := gMem (i := 22) (by decide +kernel) (by rfl)
theorem ll_X6_17 : lLk RX6 17 mX3_init := Or.inr ⟨"Gladehall", List.mem_of_getElem? (i := 29) (by decide +kernel)⟩
theorem ll_X6_24 : lLk RX6 24 mX1_init := Or.inr ⟨"Gladehall", List.mem_of_getElem? (i := 41) (by decide +kernel)⟩
theorem ll_X6_31 : lLk RX6 31 mX0_init := Or.inr ⟨"Gladehall", List.mem_of_getElem? (i := 58) (by decide +kernel)⟩
theorem ll_X6_36 : lLk RX6 36 mX2_init := Or.inr ⟨"Gladehall", List.mem_of_getElem? (i := 99) (by decide +kernel)⟩
theorem xl_X6_215 : xLk RX6 37 215 41 xIA "a player does not fight itself" := ⟨by decide +kernel, gMem (i := 185) (by decide +kernel) (by rfl), gMem (i := 12) (by decide +kernel) (by rfl), by decide, List.mem_of_getElem? (i := 464) (by decide +kernel), xa_X6_41, xb_X6_41, by decide +kernel⟩
theorem ll_X6_217 : lLk RX6 217 mX0_muster := Or.inr ⟨"Gladehall", List.mem_of_getElem? (i := 465) (by decide +kernel)⟩
theorem ll_X6_195 : lLk RX6 195 mX6_requireKind := Or.inl (gMem (i := 613) (by decide +kernel) (by rfl))
theorem ll_X6_201 : lLk RX6 201 mX2_unitsHeld := Or.inr ⟨"Gladehall", List.mem_of_getElem? (i := 624) (by decide +kernel)⟩
theorem xl_X6_204 : xLk RX6 182 204 186 xIO "there is no such player" := ⟨by decide +kernel, gMem (i := 286) (by decide +kernel) (by rfl), gMem (i := 14) (by decide +kernel) (by rfl), by decide, List.mem_of_getElem? (i := 295) (by decide +kernel), xa_X6_186, xb_X6_186, by decide +kernel⟩
theorem fl_X6_198 : fLk RX6 198 3 0 RX3 TX3 1 := ⟨rfl, by decide, in_X3, Or.inr ⟨"Gladehall", List.mem_of_getElem? (i := 34) (by decide +kernel)⟩⟩
theorem xl_X6_206 : xLk RX6 182 206 186 xIO "there is no such kind" := ⟨by decide +kernel, gMem (i := 286) (by decide +kernel) (by rfl), gMem (i := 14) (by decide +kernel) (by rfl), by decide, List.mem_of_getElem? (i := 616) (by decide +kernel), xa_X6_186, xb_X6_186, by decide +kernel⟩
theorem xl_X6_208 : xLk RX6 182 208 186 xIO "there is no such slot" := ⟨by decide +kernel, gMem (i := 286) (by decide +kernel) (by rfl), gMem (i := 14) (by decide +kernel) (by rfl), by decide, List.mem_of_getElem? (i := 353) (by decide +kernel), xa_X6_186, xb_X6_186, by decide +kernel⟩
theorem ll_X6_210 : lLk RX6 210 mX5_has := Or.inr ⟨"Gladehall", List.mem_of_getElem? (i := 418) (by decide +kernel)⟩
theorem xl_X6_213 : xLk RX6 182 213 186 xIO "there is no unit at this place" := ⟨by decide +kernel, gMem (i := 286) (by decide +kernel) (by rfl), gMem (i := 14) (by decide +kernel) (by rfl), by decide, List.mem_of_getElem? (i := 419) (by decide +kernel), xa_X6_186, xb_X6_186, by decide +kernel⟩
theorem xl_X6_64 : xLk RX6 48 64 52 xIS "the player has no gold" := ⟨by decide +kernel, gMem (i := 258) (by decide +kernel) (by rfl), gMem (i := 13) (by decide +kernel) (by rfl), by decide, List.mem_of_getElem? (i := 302) (by decide +kernel), xa_X6_52, xb_X6_52, by decide +kernel⟩
theorem fl_X6_143 : fLk RX6 143 6 4 RX6 TX6 5 := ⟨rfl, by decide, in_X6, Or.inl (gMem (i := 160) (by decide +kernel) (by rfl))⟩
theorem xl_X6_146 : xLk RX6 48 146 52 xIS "200 rounds were played" := ⟨by decide +kernel, gMem (i := 258) (by decide +kernel) (by rfl), gMem (i := 13) (by decide +kernel) (by rfl), by decide, List.mem_of_getElem? (i := 453) (by decide +kernel), xa_X6_52, xb_X6_52, by decide +kernel⟩
theorem ll_X6_151 : lLk RX6 151 mX6_fightPair := Or.inl (gMem (i := 456) (by decide +kernel) (by rfl))
theorem ll_X6_154 : lLk RX6 154 mX2_earn := Or.inr ⟨"Gladehall", List.mem_of_getElem? (i := 519) (by decide +kernel)⟩
theorem ll_X6_157 : lLk RX6 157 mX6_fillUnlockedShops := Or.inl (gMem (i := 524) (by decide +kernel) (by rfl))
theorem ll_X6_160 : lLk RX6 160 mX6_playersWithHealth := Or.inl (gMem (i := 528) (by decide +kernel) (by rfl))
theorem fl_X6_116 : fLk RX6 116 5 0 RX5 TX5 3 := ⟨rfl, by decide, in_X5, Or.inr ⟨"Gladehall", List.mem_of_getElem? (i := 110) (by decide +kernel)⟩⟩
theorem fl_X6_119 : fLk RX6 119 5 1 RX5 TX5 3 := ⟨rfl, by decide, in_X5, Or.inr ⟨"Gladehall", List.mem_of_getElem? (i := 112) (by decide +kernel)⟩⟩
theorem ll_X6_122 : lLk RX6 122 mX6_unitsFor := Or.inl (gMem (i := 420) (by decide +kernel) (by rfl))
theorem ll_X6_125 : lLk RX6 125 mX5_removeAt := Or.inr ⟨"Gladehall", List.mem_of_getElem? (i := 423) (by decide +kernel)⟩
theorem ll_X6_132 : lLk RX6 132 mX2_addGold := Or.inr ⟨"Gladehall", List.mem_of_getElem? (i := 424) (by decide +kernel)⟩
theorem xl_X6_39 : xLk RX6 37 39 41 xIA "the number is not from 0 to 1000" := ⟨by decide +kernel, gMem (i := 185) (by decide +kernel) (by rfl), gMem (i := 12) (by decide +kernel) (by rfl), by decide, List.mem_of_getElem? (i := 227) (by decide +kernel), xa_X6_41, xb_X6_41, by decide +kernel⟩
theorem ll_X6_44 : lLk RX6 44 mX1_append := Or.inr ⟨"Gladehall", List.mem_of_getElem? (i := 254) (by decide +kernel)⟩
theorem xl_X6_50 : xLk RX6 48 50 52 xIS "100 numbers are left" := ⟨by decide +kernel, gMem (i := 258) (by decide +kernel) (by rfl), gMem (i := 13) (by decide +kernel) (by rfl), by decide, List.mem_of_getElem? (i := 267) (by decide +kernel), xa_X6_52, xb_X6_52, by decide +kernel⟩
theorem fl_X6_53 : fLk RX6 53 1 2 RX1 TX1 3 := ⟨rfl, by decide, in_X1, Or.inr ⟨"Gladehall", List.mem_of_getElem? (i := 48) (by decide +kernel)⟩⟩
theorem fl_X6_138 : fLk RX6 138 5 2 RX5 TX5 3 := ⟨rfl, by decide, in_X5, Or.inr ⟨"Gladehall", List.mem_of_getElem? (i := 116) (by decide +kernel)⟩⟩
theorem xl_X6_141 : xLk RX6 48 141 52 xIS "the board has as many units as the level" := ⟨by decide +kernel, gMem (i := 258) (by decide +kernel) (by rfl), gMem (i := 13) (by decide +kernel) (by rfl), by decide, List.mem_of_getElem? (i := 438) (by decide +kernel), xa_X6_52, xb_X6_52, by decide +kernel⟩
theorem fl_X7_41 : fLk RX7 41 7 14 RX7 TX7 19 := ⟨rfl, by decide, in_X7, Or.inl (gMem (i := 653) (by decide +kernel) (by rfl))⟩
theorem fl_X7_44 : fLk RX7 44 7 15 RX7 TX7 19 := ⟨rfl, by decide, in_X7, Or.inl (gMem (i := 654) (by decide +kernel) (by rfl))⟩
theorem fl_X7_35 : fLk RX7 35 7 12 RX7 TX7 19 := ⟨rfl, by decide, in_X7, Or.inl (gMem (i := 651) (by decide +kernel) (by rfl))⟩
theorem fl_X7_38 : fLk RX7 38 7 13 RX7 TX7 19 := ⟨rfl, by decide, in_X7, Or.inl (gMem (i := 652) (by decide +kernel) (by rfl))⟩
theorem ll_X7_64 : lLk RX7 64 mX7_isPlayer := Or.inl (gMem (i := 717) (by decide +kernel) (by rfl))
theorem ll_X7_60 : lLk RX7 60 mX7_in := Or.inl (gMem (i := 706) (by decide +kernel) (by rfl))
theorem ll_X7_71 : lLk RX7 71 mX7_holds := Or.inl (gMem (i := 709) (by decide +kernel) (by rfl))
theorem ll_X7_132 : lLk RX7 132 mX7_isOnBoard := Or.inl (gMem (i := 804) (by decide +kernel) (by rfl))
theorem ll_X7_135 : lLk RX7 135 mX7_blowOf := Or.inl (gMem (i := 832) (by decide +kernel) (by rfl))
theorem ll_X7_81 : lLk RX7 81 mX7_cost := Or.inl (gMem (i := 732) (by decide +kernel) (by rfl))
theorem fl_X7_53 : fLk RX7 53 7 18 RX7 TX7 19 := ⟨rfl, by decide, in_X7, Or.inl (gMem (i := 657) (by decide +kernel) (by rfl))⟩
theorem fl_X7_50 : fLk RX7 50 7 17 RX7 TX7 19 := ⟨rfl, by decide, in_X7, Or.inl (gMem (i := 656) (by decide +kernel) (by rfl))⟩
theorem fl_X7_47 : fLk RX7 47 7 16 RX7 TX7 19 := ⟨rfl, by decide, in_X7, Or.inl (gMem (i := 655) (by decide +kernel) (by rfl))⟩
theorem ll_X7_117 : lLk RX7 117 mX7_errorOfBuy := Or.inl (gMem (i := 747) (by decide +kernel) (by rfl))
theorem fl_X7_28 : fLk RX7 28 7 10 RX7 TX7 19 := ⟨rfl, by decide, in_X7, Or.inl (gMem (i := 649) (by decide +kernel) (by rfl))⟩
theorem fl_X7_16 : fLk RX7 16 7 6 RX7 TX7 19 := ⟨rfl, by decide, in_X7, Or.inl (gMem (i := 645) (by decide +kernel) (by rfl))⟩
theorem ll_X7_120 : lLk RX7 120 mX7_merges := Or.inl (gMem (i := 754) (by decide +kernel) (by rfl))
theorem fl_X7_19 : fLk RX7 19 7 7 RX7 TX7 19 := ⟨rfl, by decide, in_X7, Or.inl (gMem (i := 646) (by decide +kernel) (by rfl))⟩
theorem ll_X7_113 : lLk RX7 113 mX7_isSlot := Or.inl (gMem (i := 751) (by decide +kernel) (by rfl))
theorem ll_X7_163 : lLk RX7 163 mX7_mayFight := Or.inl (gMem (i := 851) (by decide +kernel) (by rfl))
theorem ll_X7_147 : lLk RX7 147 mX7_fought := Or.inl (gMem (i := 816) (by decide +kernel) (by rfl))
theorem fl_X7_13 : fLk RX7 13 7 5 RX7 TX7 19 := ⟨rfl, by decide, in_X7, Or.inl (gMem (i := 644) (by decide +kernel) (by rfl))⟩
theorem ll_X7_85 : lLk RX7 85 mX7_fillsSlot := Or.inl (gMem (i := 724) (by decide +kernel) (by rfl))
theorem fl_X7_31 : fLk RX7 31 7 11 RX7 TX7 19 := ⟨rfl, by decide, in_X7, Or.inl (gMem (i := 650) (by decide +kernel) (by rfl))⟩
theorem ll_X7_77 : lLk RX7 77 mX7_next := Or.inl (gMem (i := 728) (by decide +kernel) (by rfl))
theorem ll_X7_138 : lLk RX7 138 mX7_stands := Or.inl (gMem (i := 820) (by decide +kernel) (by rfl))
theorem ll_X7_141 : lLk RX7 141 mX7_living := Or.inl (gMem (i := 824) (by decide +kernel) (by rfl))
theorem ll_X7_144 : lLk RX7 144 mX7_blows := Or.inl (gMem (i := 828) (by decide +kernel) (by rfl))
theorem fl_X7_22 : fLk RX7 22 7 8 RX7 TX7 19 := ⟨rfl, by decide, in_X7, Or.inl (gMem (i := 647) (by decide +kernel) (by rfl))⟩
theorem fl_X7_56 : fLk RX7 56 7 0 RX7 TX7 19 := ⟨rfl, by decide, in_X7, Or.inl (gMem (i := 639) (by decide +kernel) (by rfl))⟩
theorem lo_X7_1 : Cond.methodLink RX7 1 objectInit ∈ gWds := gMem (i := 638) (by decide +kernel) (by rfl)
theorem fl_X7_7 : fLk RX7 7 7 4 RX7 TX7 19 := ⟨rfl, by decide, in_X7, Or.inl (gMem (i := 643) (by decide +kernel) (by rfl))⟩
theorem fg_X7_7 : Cond.fieldLink RX7 7 (TX7 4).1 (TX7 4).2.1 (TX7 4).2.2.1 ∈ gWds := gMem (i := 643) (by decide +kernel) (by rfl)
theorem fl_X7_25 : fLk RX7 25 7 9 RX7 TX7 19 := ⟨rfl, by decide, in_X7, Or.inl (gMem (i := 648) (by decide +kernel) (by rfl))⟩
theorem fg_X7_25 : Cond.fieldLink RX7 25 (TX7 9).1 (TX7 9).2.1 (TX7 9).2.2.1 ∈ gWds := gMem (i := 648) (by decide +kernel) (by rfl)
theorem ll_X7_99 : lLk RX7 99 mX7_placeOf := Or.inl (gMem (i := 766) (by decide +kernel) (by rfl))
theorem ll_X7_103 : lLk RX7 103 mX7_takes := Or.inl (gMem (i := 770) (by decide +kernel) (by rfl))
theorem ll_X7_106 : lLk RX7 106 mX7_alike := Or.inl (gMem (i := 758) (by decide +kernel) (by rfl))
theorem ll_X7_110 : lLk RX7 110 mX7_merge := Or.inl (gMem (i := 762) (by decide +kernel) (by rfl))
theorem fl_X7_68 : fLk RX7 68 7 3 RX7 TX7 19 := ⟨rfl, by decide, in_X7, Or.inl (gMem (i := 642) (by decide +kernel) (by rfl))⟩
theorem fl_X7_74 : fLk RX7 74 7 2 RX7 TX7 19 := ⟨rfl, by decide, in_X7, Or.inl (gMem (i := 641) (by decide +kernel) (by rfl))⟩
theorem ll_X7_166 : lLk RX7 166 mX7_isKind := Or.inl (gMem (i := 891) (by decide +kernel) (by rfl))
theorem ll_X7_126 : lLk RX7 126 mX7_worth := Or.inl (gMem (i := 790) (by decide +kernel) (by rfl))
theorem ll_X7_150 : lLk RX7 150 mX7_wins := Or.inl (gMem (i := 836) (by decide +kernel) (by rfl))
theorem ll_X7_89 : lLk RX7 89 mX7_fills := Or.inl (gMem (i := 720) (by decide +kernel) (by rfl))
theorem fl_X7_154 : fLk RX7 154 7 1 RX7 TX7 19 := ⟨rfl, by decide, in_X7, Or.inl (gMem (i := 640) (by decide +kernel) (by rfl))⟩
theorem ll_X7_157 : lLk RX7 157 mX7_pairs := Or.inl (gMem (i := 812) (by decide +kernel) (by rfl))
theorem ll_X7_160 : lLk RX7 160 mX7_third := Or.inl (gMem (i := 840) (by decide +kernel) (by rfl))
theorem ll_X7_129 : lLk RX7 129 mX7_least := Or.inl (gMem (i := 793) (by decide +kernel) (by rfl))
theorem ll_X7_123 : lLk RX7 123 mX7_isOnBench := Or.inl (gMem (i := 786) (by decide +kernel) (by rfl))
theorem ll_X7_96 : lLk RX7 96 mX7_takesOffBench := Or.inl (gMem (i := 778) (by decide +kernel) (by rfl))
theorem ll_X7_93 : lLk RX7 93 mX7_takesOffBoard := Or.inl (gMem (i := 774) (by decide +kernel) (by rfl))
theorem wd_oi : Cond.instanceMethod objectInit ∈ gWds := gMem (i := 23) (by decide +kernel) (by rfl)
theorem wd_oc : Cond.code objectInit ⟨#[0xb1]⟩ 1 none ∈ gWds := gMem (i := 24) (by decide +kernel) (by rfl)
theorem wd_ms : Cond.static Lib.Math.min.name ∈ gWds := gMem (i := 429) (by decide +kernel) (by rfl)
theorem wd_mi : Cond.initialized "java/lang/Math" ∈ gWds := gMem (i := 16) (by decide +kernel) (by rfl)
theorem wd_mc : Cond.code Lib.Math.min.name Lib.Math.min.code 2 (some .int) ∈ gWds := gMem (i := 430) (by decide +kernel) (by rfl)
theorem wd_aint : Cond.arrayClass .int ∈ gWds := gMem (i := 38) (by decide +kernel) (by rfl)
theorem wd_aboolean : Cond.arrayClass .boolean ∈ gWds := gMem (i := 697) (by decide +kernel) (by rfl)
theorem wd_along : Cond.arrayClass .long ∈ gWds := gMem (i := 898) (by decide +kernel) (by rfl)
